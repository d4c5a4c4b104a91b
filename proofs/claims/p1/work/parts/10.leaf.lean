theorem zm_0 : Cond.fieldLink "java/lang/Enum" 7 "java/lang/Enum" "ordinal" "I" ∈ zd_ww := zd_me 1288 (by decide +kernel) (by decide +kernel)
theorem zm_1 : Cond.fieldLink "ScheduleCheck$Statement" 9 "ScheduleCheck$Kind" "STOP" "LScheduleCheck$Kind;" ∈ zd_ww := zd_me 166 (by decide +kernel) (by decide +kernel)
theorem zm_2 : Cond.fieldLink "ScheduleCheck$Statement" 15 "ScheduleCheck$Statement" "kind" "LScheduleCheck$Kind;" ∈ zd_ww := zd_me 168 (by decide +kernel) (by decide +kernel)
theorem zm_3 : Cond.fieldLink "ScheduleCheck$Statement" 20 "ScheduleCheck$Statement" "parent" "I" ∈ zd_ww := zd_me 172 (by decide +kernel) (by decide +kernel)
theorem zm_4 : Cond.fieldLink "ScheduleCheck$Statement" 24 "ScheduleCheck$Statement" "target" "I" ∈ zd_ww := zd_me 174 (by decide +kernel) (by decide +kernel)
theorem zm_5 : Cond.fieldLink "ScheduleCheck$Statement" 27 "ScheduleCheck$Statement" "codeFrom" "I" ∈ zd_ww := zd_me 177 (by decide +kernel) (by decide +kernel)
theorem zm_6 : Cond.fieldLink "ScheduleCheck$Statement" 30 "ScheduleCheck$Statement" "codeTo" "I" ∈ zd_ww := zd_me 180 (by decide +kernel) (by decide +kernel)
theorem zm_7 : Cond.fieldLink "ScheduleCheck$Statement" 33 "ScheduleCheck$Statement" "yes" "I" ∈ zd_ww := zd_me 183 (by decide +kernel) (by decide +kernel)
theorem zm_8 : Cond.fieldLink "ScheduleCheck$Statement" 36 "ScheduleCheck$Statement" "no" "I" ∈ zd_ww := zd_me 187 (by decide +kernel) (by decide +kernel)
theorem zm_9 : Cond.fieldLink "ScheduleCheck$Statement" 39 "ScheduleCheck$Statement" "follow" "I" ∈ zd_ww := zd_me 191 (by decide +kernel) (by decide +kernel)
theorem zm_10 : Cond.fieldLink "ScheduleCheck$Statement" 42 "ScheduleCheck$Statement" "uses" "I" ∈ zd_ww := zd_me 195 (by decide +kernel) (by decide +kernel)
theorem zm_11 : Cond.fieldLink "ScheduleCheck$Statement" 45 "ScheduleCheck$Kind" "GIVE" "LScheduleCheck$Kind;" ∈ zd_ww := zd_me 651 (by decide +kernel) (by decide +kernel)
theorem zm_12 : Cond.fieldLink "ScheduleCheck$Statement" 48 "ScheduleCheck$Kind" "WAIT" "LScheduleCheck$Kind;" ∈ zd_ww := zd_me 652 (by decide +kernel) (by decide +kernel)
theorem zm_13 : Cond.fieldLink "ScheduleCheck$Statement" 51 "ScheduleCheck$Kind" "WAKE" "LScheduleCheck$Kind;" ∈ zd_ww := zd_me 653 (by decide +kernel) (by decide +kernel)
theorem zm_14 : Cond.fieldLink "ScheduleCheck$Statement" 54 "ScheduleCheck$Kind" "WAKE_ALL" "LScheduleCheck$Kind;" ∈ zd_ww := zd_me 654 (by decide +kernel) (by decide +kernel)
theorem zm_15 : Cond.fieldLink "ScheduleCheck$Statement" 57 "ScheduleCheck$Kind" "ASSIGN" "LScheduleCheck$Kind;" ∈ zd_ww := zd_me 804 (by decide +kernel) (by decide +kernel)
/-! java/lang/Enum.ordinal -/
def y_Enum_ordinal0 : MethodName := ⟨"java/lang/Enum","ordinal","()I"⟩
theorem d_Enum_ordinal0_0 : decode prog_16_method_2_code 0 = .ok (.aload_n 0, 1) := by decide +kernel
theorem d_Enum_ordinal0_1 : decode prog_16_method_2_code 1 = .ok (.getfield 7, 3) := by decide +kernel
theorem d_Enum_ordinal0_4 : decode prog_16_method_2_code 4 = .ok (.ireturn, 1) := by decide +kernel
def zf_Enum_ordinal0 (F : Nat) (x0 : Nat) (σ : zs_S) : Option (Int32 × zs_S) :=
  zq_g (zq_en x0) <|
  some (zd_ord x0, σ)
set_option maxHeartbeats 4000000 in
set_option maxRecDepth 100000 in
theorem zc_Enum_ordinal0 {l : Launch} {D : va_G} {cA : Nat → ClassId} {ad : Nat → Nat} {A : Nat → Prop} {F : Nat} {x0 : Nat} {σ : zs_S} {q : Int32 × zs_S} (hJ : zs_J ad) (hf : zf_Enum_ordinal0 F x0 σ = some q) : Met l y_Enum_ordinal0 (.code y_Enum_ordinal0 prog_16_method_2_code 1 (some .int) :: zd_ww) { frames := 0, cells := 0, slots := 0, locals := 0 } (va_Pc [.ref (ad x0)] (zs_U 0 D cA ad A σ)) (zs_Qi 0 D cA ad A q) 0 0 A := by
  refine Met.ofW (cc := prog_16_method_2_code) (maxL := 1) (ret := (some .int)) (by decide) rfl ?_
  intro p e s m args below meth c s₁ B hml hv
  obtain ⟨hargs, hP, hK, hD, hZ⟩ := hv
  have G : zs_G 0 p s m args c prog_16_method_2_code 1 "java/lang/Enum" D cA ad A := ⟨⟨B.exec, B.bytes, hml, findClass_of_methodNamed B.named, fun w h => atoms_spec B.pre w (List.mem_cons_of_mem _ h)⟩, hK, hJ, hZ⟩
  have hw : zs_I 0 D cA ad A s σ s.heap [] := ⟨hP, hD, va_S.rf⟩
  have hx := G.1.1
  have hb := G.1.2.1
  have hown := G.1.2.2.2.1
  have hts := G.1.2.2.2.2
  have hr := B.returns
  have hlocks := B.notSynchronized
  have he : entryFrame m args 1 = F0 m 0 ((lg_sl [.ref (ad x0)] ++ List.replicate (1 - (lg_sl [.ref (ad x0)]).length) Slot.unset).toArray) [] := by rw [hargs]; exact lg_entry_eq m _ 1
  have hl := lv_entry [.ref (ad x0)] (n := 1) (Nat.le_of_ble_eq_true rfl)
  rw [he]
  generalize (lg_sl [.ref (ad x0)] ++ List.replicate (1 - (lg_sl [.ref (ad x0)]).length) Slot.unset).toArray = ls at hl
  have hl : lv_has ls 1 [(0, .ref (ad x0))] := hl
  obtain ⟨RR, hR⟩ : ∃ z, z = (headSpec (.code y_Enum_ordinal0 prog_16_method_2_code 1 (some .int) :: zd_ww) { frames := 0, cells := 0, slots := 0, locals := 0 }).room := ⟨_, rfl⟩
  rw [← hR]
  obtain ⟨QQ, hQ⟩ : ∃ z, z = MQ below (zs_Qi 0 D cA ad A q) args s 0 0 A := ⟨_, rfl⟩
  rw [← hQ]
  have hR1 : 0 ≤ RR.frames := by rw [hR]; exact Nat.le_refl _
  have hR2 : 0 ≤ RR.locals := by rw [hR]; exact Nat.le_refl _
  generalize s.heap = H at hw ⊢
  generalize ([] : List Loc) = locs at hw ⊢
  unfold zf_Enum_ordinal0 at hf
  refine lv_aload_n hx hb d_Enum_ordinal0_0 rfl (lv_at hl 0 rfl) ?_
  obtain ⟨ht1, hf⟩ := zq_gs hf
  refine zr_ord G hw ht1 zm_0 d_Enum_ordinal0_1 ?_
  exact zr_iret G hw hr hlocks hf hQ d_Enum_ordinal0_4
/-! java/util/Arrays.fill -/
def y_Arrays_fillI0 : MethodName := ⟨"java/util/Arrays","fill","([II)V"⟩
theorem d_Arrays_fillI0_0 : decode prog_22_method_103_code 0 = .ok (.iconst 0, 1) := by decide +kernel
theorem d_Arrays_fillI0_1 : decode prog_22_method_103_code 1 = .ok (.istore_n 2, 1) := by decide +kernel
theorem d_Arrays_fillI0_2 : decode prog_22_method_103_code 2 = .ok (.aload_n 0, 1) := by decide +kernel
theorem d_Arrays_fillI0_3 : decode prog_22_method_103_code 3 = .ok (.arraylength, 1) := by decide +kernel
theorem d_Arrays_fillI0_4 : decode prog_22_method_103_code 4 = .ok (.istore_n 3, 1) := by decide +kernel
theorem d_Arrays_fillI0_5 : decode prog_22_method_103_code 5 = .ok (.iload_n 2, 1) := by decide +kernel
theorem d_Arrays_fillI0_6 : decode prog_22_method_103_code 6 = .ok (.iload_n 3, 1) := by decide +kernel
theorem d_Arrays_fillI0_7 : decode prog_22_method_103_code 7 = .ok (.if_icmp .ge 13, 3) := by decide +kernel
theorem d_Arrays_fillI0_10 : decode prog_22_method_103_code 10 = .ok (.aload_n 0, 1) := by decide +kernel
theorem d_Arrays_fillI0_11 : decode prog_22_method_103_code 11 = .ok (.iload_n 2, 1) := by decide +kernel
theorem d_Arrays_fillI0_12 : decode prog_22_method_103_code 12 = .ok (.iload_n 1, 1) := by decide +kernel
theorem d_Arrays_fillI0_13 : decode prog_22_method_103_code 13 = .ok (.iastore, 1) := by decide +kernel
theorem d_Arrays_fillI0_14 : decode prog_22_method_103_code 14 = .ok (.iinc 2 1, 3) := by decide +kernel
theorem d_Arrays_fillI0_17 : decode prog_22_method_103_code 17 = .ok (.goto (-12), 3) := by decide +kernel
theorem d_Arrays_fillI0_20 : decode prog_22_method_103_code 20 = .ok (.return_, 1) := by decide +kernel
def zf_Arrays_fillI0_5 (F : Nat)  : Nat → Nat → Int32 → Int32 → Int32 → zs_S → Option (zs_S)
  | 0, _, _, _, _, _ => none
  | n + 1, x0, x1, x2, x3, σ =>
    if x3 ≤ x2 then (
      some σ
    ) else (
      zq_g (zq_k 0 x0 0) <|
      zq_g (zq_b x2 (zd_sh 0 x0).2) <|
      zq_v (zs_wi σ x0 ((x2).toNatClampNeg) x1) fun σ5 =>
      zq_v (x2 + 1) fun v6 =>
      (zf_Arrays_fillI0_5 F n) x0 x1 v6 x3 σ5
    )
def zf_Arrays_fillI0 (F : Nat) (x0 : Nat) (x1 : Int32) (σ : zs_S) : Option (zs_S) :=
  zq_g (zq_k 0 x0 0) <|
  zq_v (nI (zd_sh 0 x0).2) fun v2 =>
  zf_Arrays_fillI0_5 F F x0 x1 0 v2 σ
set_option maxHeartbeats 4000000 in
set_option maxRecDepth 100000 in
theorem zc_Arrays_fillI0 {l : Launch} {D : va_G} {cA : Nat → ClassId} {ad : Nat → Nat} {A : Nat → Prop} {F : Nat} {x0 : Nat} {x1 : Int32} {σ : zs_S} {q : zs_S} (hJ : zs_J ad) (hf : zf_Arrays_fillI0 F x0 x1 σ = some q) : Met l y_Arrays_fillI0 (.code y_Arrays_fillI0 prog_22_method_103_code 4 none :: zd_ww) { frames := 0, cells := 0, slots := 0, locals := 0 } (va_Pc [.ref (ad x0), .int x1] (zs_U 0 D cA ad A σ)) (zs_Qv 0 D cA ad A q) 0 0 A := by
  refine Met.ofW (cc := prog_22_method_103_code) (maxL := 4) (ret := none) (by decide) rfl ?_
  intro p e s m args below meth c s₁ B hml hv
  obtain ⟨hargs, hP, hK, hD, hZ⟩ := hv
  have G : zs_G 0 p s m args c prog_22_method_103_code 4 "java/util/Arrays" D cA ad A := ⟨⟨B.exec, B.bytes, hml, findClass_of_methodNamed B.named, fun w h => atoms_spec B.pre w (List.mem_cons_of_mem _ h)⟩, hK, hJ, hZ⟩
  have hw : zs_I 0 D cA ad A s σ s.heap [] := ⟨hP, hD, va_S.rf⟩
  have hx := G.1.1
  have hb := G.1.2.1
  have hown := G.1.2.2.2.1
  have hts := G.1.2.2.2.2
  have hr := B.returns
  have hlocks := B.notSynchronized
  have he : entryFrame m args 4 = F0 m 0 ((lg_sl [.ref (ad x0), .int x1] ++ List.replicate (4 - (lg_sl [.ref (ad x0), .int x1]).length) Slot.unset).toArray) [] := by rw [hargs]; exact lg_entry_eq m _ 4
  have hl := lv_entry [.ref (ad x0), .int x1] (n := 4) (Nat.le_of_ble_eq_true rfl)
  rw [he]
  generalize (lg_sl [.ref (ad x0), .int x1] ++ List.replicate (4 - (lg_sl [.ref (ad x0), .int x1]).length) Slot.unset).toArray = ls at hl
  have hl : lv_has ls 4 [(0, .ref (ad x0)), (1, .int x1)] := hl
  obtain ⟨RR, hR⟩ : ∃ z, z = (headSpec (.code y_Arrays_fillI0 prog_22_method_103_code 4 none :: zd_ww) { frames := 0, cells := 0, slots := 0, locals := 0 }).room := ⟨_, rfl⟩
  rw [← hR]
  obtain ⟨QQ, hQ⟩ : ∃ z, z = MQ below (zs_Qv 0 D cA ad A q) args s 0 0 A := ⟨_, rfl⟩
  rw [← hQ]
  have hR1 : 0 ≤ RR.frames := by rw [hR]; exact Nat.le_refl _
  have hR2 : 0 ≤ RR.locals := by rw [hR]; exact Nat.le_refl _
  generalize s.heap = H at hw ⊢
  generalize ([] : List Loc) = locs at hw ⊢
  have K5 : ∀ (n : Nat) (x0 : Nat) (x1 : Int32) (x2 : Int32) (x3 : Int32) (σ : zs_S) (H : Heap) (locs : List Loc) (ls : Array Slot), zf_Arrays_fillI0_5 F n x0 x1 x2 x3 σ = some q → zs_I 0 D cA ad A s σ H locs → lv_has ls 4 [(0, .ref (ad x0)), (1, .int x1), (2, .int x2), (3, .int x3)] → W p l e RR s m args below meth c H locs 0 0 QQ (F0 m 5 ls []) := by
    intro  n
    induction n with
    | zero => intro x0 x1 x2 x3 σ H locs ls hf hw hl; exact nomatch (show (none : Option (zs_S)) = some q from hf)
    | succ n ih =>
      intro x0 x1 x2 x3 σ H locs ls hf hw hl
      rw [zf_Arrays_fillI0_5] at hf
      refine lv_iload_n hx hb d_Arrays_fillI0_5 rfl (lv_at hl 2 rfl) ?_
      refine lv_iload_n hx hb d_Arrays_fillI0_6 rfl (lv_at hl 3 rfl) ?_
      refine lv_icmp_ge hx hb d_Arrays_fillI0_7 (tgt := 20) rfl (fun hc => ?_) (fun hc => ?_)
      · have hf := (if_pos hc).symm.trans hf
        exact zr_vret G hw hr hlocks hf hQ d_Arrays_fillI0_20
      · have hf := (if_neg hc).symm.trans hf
        refine lv_aload_n hx hb d_Arrays_fillI0_10 rfl (lv_at hl 0 rfl) ?_
        refine lv_iload_n hx hb d_Arrays_fillI0_11 rfl (lv_at hl 2 rfl) ?_
        refine lv_iload_n hx hb d_Arrays_fillI0_12 rfl (lv_at hl 1 rfl) ?_
        obtain ⟨hs3, hf⟩ := zq_gs hf
        have hs3 := zq_ks hs3
        obtain ⟨hi4, hf⟩ := zq_gs hf
        obtain ⟨σ5, e_σ5, hf⟩ := zq_ss hf
        refine zr_iast G hw x0 hs3 rfl  hi4  d_Arrays_fillI0_13 (fun H locs hw => ?_)
        rw [← e_σ5] at hw
        obtain ⟨v6, e_v6, hf⟩ := zq_ss hf
        refine lv_iinc (v := v6) hx hb d_Arrays_fillI0_14 hl (k := 2) rfl (zq_inc (k := 1) (by decide) e_v6) (by decide) rfl (fun ls hl => ?_)
        have hl : lv_has ls 4 [(2, .int v6), (0, .ref (ad x0)), (1, .int x1), (3, .int x3)] := hl
        refine lv_goto hx hb d_Arrays_fillI0_17 (tgt := 5) rfl ?_
        exact ih x0 x1 v6 x3 σ5 H locs ls hf hw (lv_sub hl [1, 2, 0, 3] rfl)
  unfold zf_Arrays_fillI0 at hf
  refine lv_iconst (v := 0) hx hb d_Arrays_fillI0_0 (by decide) ?_
  refine lv_istore_n hx hb d_Arrays_fillI0_1 rfl hl (by decide) rfl (fun ls hl => ?_)
  have hl : lv_has ls 4 [(2, .int 0), (0, .ref (ad x0)), (1, .int x1)] := hl
  refine lv_aload_n hx hb d_Arrays_fillI0_2 rfl (lv_at hl 1 rfl) ?_
  obtain ⟨hs1, hf⟩ := zq_gs hf
  have hs1 := zq_ks hs1
  refine zr_alen G hw x0 hs1 (by decide) rfl d_Arrays_fillI0_3 ?_
  refine lv_topi (fun v2 e_v2 => ?_)
  have hf := zq_vs e_v2 hf
  refine lv_istore_n hx hb d_Arrays_fillI0_4 rfl hl (by decide) rfl (fun ls hl => ?_)
  have hl : lv_has ls 4 [(3, .int v2), (2, .int 0), (0, .ref (ad x0)), (1, .int x1)] := hl
  exact K5 F x0 x1 0 v2 σ H locs ls hf hw (lv_sub hl [2, 3, 1, 0] rfl)
/-! java/util/Arrays.fill -/
def y_Arrays_fillB0 : MethodName := ⟨"java/util/Arrays","fill","([BB)V"⟩
theorem d_Arrays_fillB0_0 : decode prog_22_method_109_code 0 = .ok (.iconst 0, 1) := by decide +kernel
theorem d_Arrays_fillB0_1 : decode prog_22_method_109_code 1 = .ok (.istore_n 2, 1) := by decide +kernel
theorem d_Arrays_fillB0_2 : decode prog_22_method_109_code 2 = .ok (.aload_n 0, 1) := by decide +kernel
theorem d_Arrays_fillB0_3 : decode prog_22_method_109_code 3 = .ok (.arraylength, 1) := by decide +kernel
theorem d_Arrays_fillB0_4 : decode prog_22_method_109_code 4 = .ok (.istore_n 3, 1) := by decide +kernel
theorem d_Arrays_fillB0_5 : decode prog_22_method_109_code 5 = .ok (.iload_n 2, 1) := by decide +kernel
theorem d_Arrays_fillB0_6 : decode prog_22_method_109_code 6 = .ok (.iload_n 3, 1) := by decide +kernel
theorem d_Arrays_fillB0_7 : decode prog_22_method_109_code 7 = .ok (.if_icmp .ge 13, 3) := by decide +kernel
theorem d_Arrays_fillB0_10 : decode prog_22_method_109_code 10 = .ok (.aload_n 0, 1) := by decide +kernel
theorem d_Arrays_fillB0_11 : decode prog_22_method_109_code 11 = .ok (.iload_n 2, 1) := by decide +kernel
theorem d_Arrays_fillB0_12 : decode prog_22_method_109_code 12 = .ok (.iload_n 1, 1) := by decide +kernel
theorem d_Arrays_fillB0_13 : decode prog_22_method_109_code 13 = .ok (.bastore, 1) := by decide +kernel
theorem d_Arrays_fillB0_14 : decode prog_22_method_109_code 14 = .ok (.iinc 2 1, 3) := by decide +kernel
theorem d_Arrays_fillB0_17 : decode prog_22_method_109_code 17 = .ok (.goto (-12), 3) := by decide +kernel
theorem d_Arrays_fillB0_20 : decode prog_22_method_109_code 20 = .ok (.return_, 1) := by decide +kernel
def zf_Arrays_fillB0_5 (F : Nat)  : Nat → Nat → Int32 → Int32 → Int32 → zs_S → Option (zs_S)
  | 0, _, _, _, _, _ => none
  | n + 1, x0, x1, x2, x3, σ =>
    if x3 ≤ x2 then (
      some σ
    ) else (
      zq_g (zq_k 0 x0 1) <|
      zq_g (zq_b x2 (zd_sh 0 x0).2) <|
      zq_v (zs_wi σ x0 ((x2).toNatClampNeg) (vp_nar .byte x1)) fun σ5 =>
      zq_v (x2 + 1) fun v6 =>
      (zf_Arrays_fillB0_5 F n) x0 x1 v6 x3 σ5
    )
def zf_Arrays_fillB0 (F : Nat) (x0 : Nat) (x1 : Int32) (σ : zs_S) : Option (zs_S) :=
  zq_g (zq_k 0 x0 1) <|
  zq_v (nI (zd_sh 0 x0).2) fun v2 =>
  zf_Arrays_fillB0_5 F F x0 x1 0 v2 σ
set_option maxHeartbeats 4000000 in
set_option maxRecDepth 100000 in
theorem zc_Arrays_fillB0 {l : Launch} {D : va_G} {cA : Nat → ClassId} {ad : Nat → Nat} {A : Nat → Prop} {F : Nat} {x0 : Nat} {x1 : Int32} {σ : zs_S} {q : zs_S} (hJ : zs_J ad) (hf : zf_Arrays_fillB0 F x0 x1 σ = some q) : Met l y_Arrays_fillB0 (.code y_Arrays_fillB0 prog_22_method_109_code 4 none :: zd_ww) { frames := 0, cells := 0, slots := 0, locals := 0 } (va_Pc [.ref (ad x0), .int x1] (zs_U 0 D cA ad A σ)) (zs_Qv 0 D cA ad A q) 0 0 A := by
  refine Met.ofW (cc := prog_22_method_109_code) (maxL := 4) (ret := none) (by decide) rfl ?_
  intro p e s m args below meth c s₁ B hml hv
  obtain ⟨hargs, hP, hK, hD, hZ⟩ := hv
  have G : zs_G 0 p s m args c prog_22_method_109_code 4 "java/util/Arrays" D cA ad A := ⟨⟨B.exec, B.bytes, hml, findClass_of_methodNamed B.named, fun w h => atoms_spec B.pre w (List.mem_cons_of_mem _ h)⟩, hK, hJ, hZ⟩
  have hw : zs_I 0 D cA ad A s σ s.heap [] := ⟨hP, hD, va_S.rf⟩
  have hx := G.1.1
  have hb := G.1.2.1
  have hown := G.1.2.2.2.1
  have hts := G.1.2.2.2.2
  have hr := B.returns
  have hlocks := B.notSynchronized
  have he : entryFrame m args 4 = F0 m 0 ((lg_sl [.ref (ad x0), .int x1] ++ List.replicate (4 - (lg_sl [.ref (ad x0), .int x1]).length) Slot.unset).toArray) [] := by rw [hargs]; exact lg_entry_eq m _ 4
  have hl := lv_entry [.ref (ad x0), .int x1] (n := 4) (Nat.le_of_ble_eq_true rfl)
  rw [he]
  generalize (lg_sl [.ref (ad x0), .int x1] ++ List.replicate (4 - (lg_sl [.ref (ad x0), .int x1]).length) Slot.unset).toArray = ls at hl
  have hl : lv_has ls 4 [(0, .ref (ad x0)), (1, .int x1)] := hl
  obtain ⟨RR, hR⟩ : ∃ z, z = (headSpec (.code y_Arrays_fillB0 prog_22_method_109_code 4 none :: zd_ww) { frames := 0, cells := 0, slots := 0, locals := 0 }).room := ⟨_, rfl⟩
  rw [← hR]
  obtain ⟨QQ, hQ⟩ : ∃ z, z = MQ below (zs_Qv 0 D cA ad A q) args s 0 0 A := ⟨_, rfl⟩
  rw [← hQ]
  have hR1 : 0 ≤ RR.frames := by rw [hR]; exact Nat.le_refl _
  have hR2 : 0 ≤ RR.locals := by rw [hR]; exact Nat.le_refl _
  generalize s.heap = H at hw ⊢
  generalize ([] : List Loc) = locs at hw ⊢
  have K5 : ∀ (n : Nat) (x0 : Nat) (x1 : Int32) (x2 : Int32) (x3 : Int32) (σ : zs_S) (H : Heap) (locs : List Loc) (ls : Array Slot), zf_Arrays_fillB0_5 F n x0 x1 x2 x3 σ = some q → zs_I 0 D cA ad A s σ H locs → lv_has ls 4 [(0, .ref (ad x0)), (1, .int x1), (2, .int x2), (3, .int x3)] → W p l e RR s m args below meth c H locs 0 0 QQ (F0 m 5 ls []) := by
    intro  n
    induction n with
    | zero => intro x0 x1 x2 x3 σ H locs ls hf hw hl; exact nomatch (show (none : Option (zs_S)) = some q from hf)
    | succ n ih =>
      intro x0 x1 x2 x3 σ H locs ls hf hw hl
      rw [zf_Arrays_fillB0_5] at hf
      refine lv_iload_n hx hb d_Arrays_fillB0_5 rfl (lv_at hl 2 rfl) ?_
      refine lv_iload_n hx hb d_Arrays_fillB0_6 rfl (lv_at hl 3 rfl) ?_
      refine lv_icmp_ge hx hb d_Arrays_fillB0_7 (tgt := 20) rfl (fun hc => ?_) (fun hc => ?_)
      · have hf := (if_pos hc).symm.trans hf
        exact zr_vret G hw hr hlocks hf hQ d_Arrays_fillB0_20
      · have hf := (if_neg hc).symm.trans hf
        refine lv_aload_n hx hb d_Arrays_fillB0_10 rfl (lv_at hl 0 rfl) ?_
        refine lv_iload_n hx hb d_Arrays_fillB0_11 rfl (lv_at hl 2 rfl) ?_
        refine lv_iload_n hx hb d_Arrays_fillB0_12 rfl (lv_at hl 1 rfl) ?_
        obtain ⟨hs3, hf⟩ := zq_gs hf
        have hs3 := zq_ks hs3
        obtain ⟨hi4, hf⟩ := zq_gs hf
        obtain ⟨σ5, e_σ5, hf⟩ := zq_ss hf
        refine zr_bast G hw x0 hs3 rfl  hi4  d_Arrays_fillB0_13 (fun H locs hw => ?_)
        rw [← e_σ5] at hw
        obtain ⟨v6, e_v6, hf⟩ := zq_ss hf
        refine lv_iinc (v := v6) hx hb d_Arrays_fillB0_14 hl (k := 2) rfl (zq_inc (k := 1) (by decide) e_v6) (by decide) rfl (fun ls hl => ?_)
        have hl : lv_has ls 4 [(2, .int v6), (0, .ref (ad x0)), (1, .int x1), (3, .int x3)] := hl
        refine lv_goto hx hb d_Arrays_fillB0_17 (tgt := 5) rfl ?_
        exact ih x0 x1 v6 x3 σ5 H locs ls hf hw (lv_sub hl [1, 2, 0, 3] rfl)
  unfold zf_Arrays_fillB0 at hf
  refine lv_iconst (v := 0) hx hb d_Arrays_fillB0_0 (by decide) ?_
  refine lv_istore_n hx hb d_Arrays_fillB0_1 rfl hl (by decide) rfl (fun ls hl => ?_)
  have hl : lv_has ls 4 [(2, .int 0), (0, .ref (ad x0)), (1, .int x1)] := hl
  refine lv_aload_n hx hb d_Arrays_fillB0_2 rfl (lv_at hl 1 rfl) ?_
  obtain ⟨hs1, hf⟩ := zq_gs hf
  have hs1 := zq_ks hs1
  refine zr_alen G hw x0 hs1 (by decide) rfl d_Arrays_fillB0_3 ?_
  refine lv_topi (fun v2 e_v2 => ?_)
  have hf := zq_vs e_v2 hf
  refine lv_istore_n hx hb d_Arrays_fillB0_4 rfl hl (by decide) rfl (fun ls hl => ?_)
  have hl : lv_has ls 4 [(3, .int v2), (2, .int 0), (0, .ref (ad x0)), (1, .int x1)] := hl
  exact K5 F x0 x1 0 v2 σ H locs ls hf hw (lv_sub hl [2, 3, 1, 0] rfl)
/-! ScheduleCheck.localCell -/
def y_S_localCell : MethodName := ⟨"ScheduleCheck","localCell","(II)I"⟩
theorem d_S_localCell_0 : decode prog_1_method_19_code 0 = .ok (.bipush 20, 2) := by decide +kernel
theorem d_S_localCell_2 : decode prog_1_method_19_code 2 = .ok (.iload_n 0, 1) := by decide +kernel
theorem d_S_localCell_3 : decode prog_1_method_19_code 3 = .ok (.iconst 3, 1) := by decide +kernel
theorem d_S_localCell_4 : decode prog_1_method_19_code 4 = .ok (.imul, 1) := by decide +kernel
theorem d_S_localCell_5 : decode prog_1_method_19_code 5 = .ok (.iadd, 1) := by decide +kernel
theorem d_S_localCell_6 : decode prog_1_method_19_code 6 = .ok (.iload_n 1, 1) := by decide +kernel
theorem d_S_localCell_7 : decode prog_1_method_19_code 7 = .ok (.iadd, 1) := by decide +kernel
theorem d_S_localCell_8 : decode prog_1_method_19_code 8 = .ok (.ireturn, 1) := by decide +kernel
def zf_S_localCell (F : Nat) (x0 : Int32) (x1 : Int32) (σ : zs_S) : Option (Int32 × zs_S) :=
  some ((20 + (x0 * 3)) + x1, σ)
set_option maxHeartbeats 4000000 in
set_option maxRecDepth 100000 in
theorem zc_S_localCell {l : Launch} {D : va_G} {cA : Nat → ClassId} {ad : Nat → Nat} {A : Nat → Prop} {F : Nat} {x0 : Int32} {x1 : Int32} {σ : zs_S} {q : Int32 × zs_S} (hJ : zs_J ad) (hf : zf_S_localCell F x0 x1 σ = some q) : Met l y_S_localCell (.code y_S_localCell prog_1_method_19_code 2 (some .int) :: zd_ww) { frames := 0, cells := 0, slots := 0, locals := 0 } (va_Pc [.int x0, .int x1] (zs_U 0 D cA ad A σ)) (zs_Qi 0 D cA ad A q) 0 0 A := by
  refine Met.ofW (cc := prog_1_method_19_code) (maxL := 2) (ret := (some .int)) (by decide) rfl ?_
  intro p e s m args below meth c s₁ B hml hv
  obtain ⟨hargs, hP, hK, hD, hZ⟩ := hv
  have G : zs_G 0 p s m args c prog_1_method_19_code 2 "ScheduleCheck" D cA ad A := ⟨⟨B.exec, B.bytes, hml, findClass_of_methodNamed B.named, fun w h => atoms_spec B.pre w (List.mem_cons_of_mem _ h)⟩, hK, hJ, hZ⟩
  have hw : zs_I 0 D cA ad A s σ s.heap [] := ⟨hP, hD, va_S.rf⟩
  have hx := G.1.1
  have hb := G.1.2.1
  have hown := G.1.2.2.2.1
  have hts := G.1.2.2.2.2
  have hr := B.returns
  have hlocks := B.notSynchronized
  have he : entryFrame m args 2 = F0 m 0 ((lg_sl [.int x0, .int x1] ++ List.replicate (2 - (lg_sl [.int x0, .int x1]).length) Slot.unset).toArray) [] := by rw [hargs]; exact lg_entry_eq m _ 2
  have hl := lv_entry [.int x0, .int x1] (n := 2) (Nat.le_of_ble_eq_true rfl)
  rw [he]
  generalize (lg_sl [.int x0, .int x1] ++ List.replicate (2 - (lg_sl [.int x0, .int x1]).length) Slot.unset).toArray = ls at hl
  have hl : lv_has ls 2 [(0, .int x0), (1, .int x1)] := hl
  obtain ⟨RR, hR⟩ : ∃ z, z = (headSpec (.code y_S_localCell prog_1_method_19_code 2 (some .int) :: zd_ww) { frames := 0, cells := 0, slots := 0, locals := 0 }).room := ⟨_, rfl⟩
  rw [← hR]
  obtain ⟨QQ, hQ⟩ : ∃ z, z = MQ below (zs_Qi 0 D cA ad A q) args s 0 0 A := ⟨_, rfl⟩
  rw [← hQ]
  have hR1 : 0 ≤ RR.frames := by rw [hR]; exact Nat.le_refl _
  have hR2 : 0 ≤ RR.locals := by rw [hR]; exact Nat.le_refl _
  generalize s.heap = H at hw ⊢
  generalize ([] : List Loc) = locs at hw ⊢
  unfold zf_S_localCell at hf
  refine lv_bipush (v := 20) hx hb d_S_localCell_0 (by decide) ?_
  refine lv_iload_n hx hb d_S_localCell_2 rfl (lv_at hl 0 rfl) ?_
  refine lv_iconst (v := 3) hx hb d_S_localCell_3 (by decide) ?_
  refine lv_imul hx hb d_S_localCell_4 ?_
  refine lv_iadd hx hb d_S_localCell_5 ?_
  refine lv_iload_n hx hb d_S_localCell_6 rfl (lv_at hl 1 rfl) ?_
  refine lv_iadd hx hb d_S_localCell_7 ?_
  exact zr_iret G hw hr hlocks hf hQ d_S_localCell_8
/-! ScheduleCheck$Statement.begin -/
def y_Statement_begin : MethodName := ⟨"ScheduleCheck$Statement","begin","(I)V"⟩
theorem d_Statement_begin_0 : decode prog_8_method_2_code 0 = .ok (.aload_n 0, 1) := by decide +kernel
theorem d_Statement_begin_1 : decode prog_8_method_2_code 1 = .ok (.getstatic 9, 3) := by decide +kernel
theorem d_Statement_begin_4 : decode prog_8_method_2_code 4 = .ok (.putfield 15, 3) := by decide +kernel
theorem d_Statement_begin_7 : decode prog_8_method_2_code 7 = .ok (.aload_n 0, 1) := by decide +kernel
theorem d_Statement_begin_8 : decode prog_8_method_2_code 8 = .ok (.iload_n 1, 1) := by decide +kernel
theorem d_Statement_begin_9 : decode prog_8_method_2_code 9 = .ok (.putfield 20, 3) := by decide +kernel
theorem d_Statement_begin_12 : decode prog_8_method_2_code 12 = .ok (.aload_n 0, 1) := by decide +kernel
theorem d_Statement_begin_13 : decode prog_8_method_2_code 13 = .ok (.iconst 0, 1) := by decide +kernel
theorem d_Statement_begin_14 : decode prog_8_method_2_code 14 = .ok (.putfield 24, 3) := by decide +kernel
theorem d_Statement_begin_17 : decode prog_8_method_2_code 17 = .ok (.aload_n 0, 1) := by decide +kernel
theorem d_Statement_begin_18 : decode prog_8_method_2_code 18 = .ok (.iconst 0, 1) := by decide +kernel
theorem d_Statement_begin_19 : decode prog_8_method_2_code 19 = .ok (.putfield 27, 3) := by decide +kernel
theorem d_Statement_begin_22 : decode prog_8_method_2_code 22 = .ok (.aload_n 0, 1) := by decide +kernel
theorem d_Statement_begin_23 : decode prog_8_method_2_code 23 = .ok (.iconst 0, 1) := by decide +kernel
theorem d_Statement_begin_24 : decode prog_8_method_2_code 24 = .ok (.putfield 30, 3) := by decide +kernel
theorem d_Statement_begin_27 : decode prog_8_method_2_code 27 = .ok (.aload_n 0, 1) := by decide +kernel
theorem d_Statement_begin_28 : decode prog_8_method_2_code 28 = .ok (.bipush (-2), 2) := by decide +kernel
theorem d_Statement_begin_30 : decode prog_8_method_2_code 30 = .ok (.putfield 33, 3) := by decide +kernel
theorem d_Statement_begin_33 : decode prog_8_method_2_code 33 = .ok (.aload_n 0, 1) := by decide +kernel
theorem d_Statement_begin_34 : decode prog_8_method_2_code 34 = .ok (.bipush (-2), 2) := by decide +kernel
theorem d_Statement_begin_36 : decode prog_8_method_2_code 36 = .ok (.putfield 36, 3) := by decide +kernel
theorem d_Statement_begin_39 : decode prog_8_method_2_code 39 = .ok (.aload_n 0, 1) := by decide +kernel
theorem d_Statement_begin_40 : decode prog_8_method_2_code 40 = .ok (.bipush (-2), 2) := by decide +kernel
theorem d_Statement_begin_42 : decode prog_8_method_2_code 42 = .ok (.putfield 39, 3) := by decide +kernel
theorem d_Statement_begin_45 : decode prog_8_method_2_code 45 = .ok (.aload_n 0, 1) := by decide +kernel
theorem d_Statement_begin_46 : decode prog_8_method_2_code 46 = .ok (.iconst 0, 1) := by decide +kernel
theorem d_Statement_begin_47 : decode prog_8_method_2_code 47 = .ok (.putfield 42, 3) := by decide +kernel
theorem d_Statement_begin_50 : decode prog_8_method_2_code 50 = .ok (.return_, 1) := by decide +kernel
def zf_Statement_begin (F : Nat) (x0 : Nat) (x1 : Int32) (σ : zs_S) : Option (zs_S) :=
  zq_g (zq_k 0 x0 16) <|
  zq_v (zs_wr σ x0 0 1109) fun σ2 =>
  zq_v (zs_wi σ2 x0 1 x1) fun σ3 =>
  zq_v (zs_wi σ3 x0 2 0) fun σ4 =>
  zq_v (zs_wi σ4 x0 3 0) fun σ5 =>
  zq_v (zs_wi σ5 x0 4 0) fun σ6 =>
  zq_v (zs_wi σ6 x0 5 ((-2))) fun σ7 =>
  zq_v (zs_wi σ7 x0 6 ((-2))) fun σ8 =>
  zq_v (zs_wi σ8 x0 7 ((-2))) fun σ9 =>
  zq_v (zs_wi σ9 x0 8 0) fun σ10 =>
  some σ10
set_option maxHeartbeats 4000000 in
set_option maxRecDepth 100000 in
theorem zc_Statement_begin {l : Launch} {D : va_G} {cA : Nat → ClassId} {ad : Nat → Nat} {A : Nat → Prop} {F : Nat} {x0 : Nat} {x1 : Int32} {σ : zs_S} {q : zs_S} (hJ : zs_J ad) (hf : zf_Statement_begin F x0 x1 σ = some q) : Met l y_Statement_begin (.code y_Statement_begin prog_8_method_2_code 2 none :: zd_ww) { frames := 0, cells := 0, slots := 0, locals := 0 } (va_Pc [.ref (ad x0), .int x1] (zs_U 0 D cA ad A σ)) (zs_Qv 0 D cA ad A q) 0 0 A := by
  refine Met.ofW (cc := prog_8_method_2_code) (maxL := 2) (ret := none) (by decide) rfl ?_
  intro p e s m args below meth c s₁ B hml hv
  obtain ⟨hargs, hP, hK, hD, hZ⟩ := hv
  have G : zs_G 0 p s m args c prog_8_method_2_code 2 "ScheduleCheck$Statement" D cA ad A := ⟨⟨B.exec, B.bytes, hml, findClass_of_methodNamed B.named, fun w h => atoms_spec B.pre w (List.mem_cons_of_mem _ h)⟩, hK, hJ, hZ⟩
  have hw : zs_I 0 D cA ad A s σ s.heap [] := ⟨hP, hD, va_S.rf⟩
  have hx := G.1.1
  have hb := G.1.2.1
  have hown := G.1.2.2.2.1
  have hts := G.1.2.2.2.2
  have hr := B.returns
  have hlocks := B.notSynchronized
  have he : entryFrame m args 2 = F0 m 0 ((lg_sl [.ref (ad x0), .int x1] ++ List.replicate (2 - (lg_sl [.ref (ad x0), .int x1]).length) Slot.unset).toArray) [] := by rw [hargs]; exact lg_entry_eq m _ 2
  have hl := lv_entry [.ref (ad x0), .int x1] (n := 2) (Nat.le_of_ble_eq_true rfl)
  rw [he]
  generalize (lg_sl [.ref (ad x0), .int x1] ++ List.replicate (2 - (lg_sl [.ref (ad x0), .int x1]).length) Slot.unset).toArray = ls at hl
  have hl : lv_has ls 2 [(0, .ref (ad x0)), (1, .int x1)] := hl
  obtain ⟨RR, hR⟩ : ∃ z, z = (headSpec (.code y_Statement_begin prog_8_method_2_code 2 none :: zd_ww) { frames := 0, cells := 0, slots := 0, locals := 0 }).room := ⟨_, rfl⟩
  rw [← hR]
  obtain ⟨QQ, hQ⟩ : ∃ z, z = MQ below (zs_Qv 0 D cA ad A q) args s 0 0 A := ⟨_, rfl⟩
  rw [← hQ]
  have hR1 : 0 ≤ RR.frames := by rw [hR]; exact Nat.le_refl _
  have hR2 : 0 ≤ RR.locals := by rw [hR]; exact Nat.le_refl _
  generalize s.heap = H at hw ⊢
  generalize ([] : List Loc) = locs at hw ⊢
  unfold zf_Statement_begin at hf
  refine lv_aload_n hx hb d_Statement_begin_0 rfl (lv_at hl 0 rfl) ?_
  refine va_gets (C := "ScheduleCheck$Kind") (n := "STOP") (d := "LScheduleCheck$Kind;") (v := .ref (ad 1109)) hx hb ((G.2.2.2.1 rfl).2.2.1.1 9 (by decide)).1 hw.2.2 hown (hts _ zm_1) (fun _ h => h) d_Statement_begin_1 ?_
  obtain ⟨hs1, hf⟩ := zq_gs hf
  have hs1 := zq_ks hs1
  obtain ⟨σ2, e_σ2, hf⟩ := zq_ss hf
  refine zr_putr (ci := 6) G hw x0 0 zi_6 t_zd6 t_zd6_ok n_zd6 hs1 rfl rfl (by decide) rfl zm_2 (fun _ h => h) rfl (x := 1109) (by decide) (t_zd6_ok 0 (by decide)) rfl rfl d_Statement_begin_4 (fun H locs hw => ?_)
  rw [← e_σ2] at hw
  refine lv_aload_n hx hb d_Statement_begin_7 rfl (lv_at hl 0 rfl) ?_
  refine lv_iload_n hx hb d_Statement_begin_8 rfl (lv_at hl 1 rfl) ?_
  obtain ⟨σ3, e_σ3, hf⟩ := zq_ss hf
  refine zr_puti (ci := 6) G hw x0 1 zi_6 t_zd6 t_zd6_ok n_zd6 hs1 rfl rfl (by decide) rfl zm_3 (fun _ h => h) rfl (x := x1) (t_zd6_ok 1 (by decide)) rfl rfl d_Statement_begin_9 (fun H locs hw => ?_)
  rw [← e_σ3] at hw
  refine lv_aload_n hx hb d_Statement_begin_12 rfl (lv_at hl 0 rfl) ?_
  refine lv_iconst (v := 0) hx hb d_Statement_begin_13 (by decide) ?_
  obtain ⟨σ4, e_σ4, hf⟩ := zq_ss hf
  refine zr_puti (ci := 6) G hw x0 2 zi_6 t_zd6 t_zd6_ok n_zd6 hs1 rfl rfl (by decide) rfl zm_4 (fun _ h => h) rfl (x := 0) (t_zd6_ok 2 (by decide)) rfl rfl d_Statement_begin_14 (fun H locs hw => ?_)
  rw [← e_σ4] at hw
  refine lv_aload_n hx hb d_Statement_begin_17 rfl (lv_at hl 0 rfl) ?_
  refine lv_iconst (v := 0) hx hb d_Statement_begin_18 (by decide) ?_
  obtain ⟨σ5, e_σ5, hf⟩ := zq_ss hf
  refine zr_puti (ci := 6) G hw x0 3 zi_6 t_zd6 t_zd6_ok n_zd6 hs1 rfl rfl (by decide) rfl zm_5 (fun _ h => h) rfl (x := 0) (t_zd6_ok 3 (by decide)) rfl rfl d_Statement_begin_19 (fun H locs hw => ?_)
  rw [← e_σ5] at hw
  refine lv_aload_n hx hb d_Statement_begin_22 rfl (lv_at hl 0 rfl) ?_
  refine lv_iconst (v := 0) hx hb d_Statement_begin_23 (by decide) ?_
  obtain ⟨σ6, e_σ6, hf⟩ := zq_ss hf
  refine zr_puti (ci := 6) G hw x0 4 zi_6 t_zd6 t_zd6_ok n_zd6 hs1 rfl rfl (by decide) rfl zm_6 (fun _ h => h) rfl (x := 0) (t_zd6_ok 4 (by decide)) rfl rfl d_Statement_begin_24 (fun H locs hw => ?_)
  rw [← e_σ6] at hw
  refine lv_aload_n hx hb d_Statement_begin_27 rfl (lv_at hl 0 rfl) ?_
  refine lv_bipush (v := (-2)) hx hb d_Statement_begin_28 (by decide) ?_
  obtain ⟨σ7, e_σ7, hf⟩ := zq_ss hf
  refine zr_puti (ci := 6) G hw x0 5 zi_6 t_zd6 t_zd6_ok n_zd6 hs1 rfl rfl (by decide) rfl zm_7 (fun _ h => h) rfl (x := ((-2))) (t_zd6_ok 5 (by decide)) rfl rfl d_Statement_begin_30 (fun H locs hw => ?_)
  rw [← e_σ7] at hw
  refine lv_aload_n hx hb d_Statement_begin_33 rfl (lv_at hl 0 rfl) ?_
  refine lv_bipush (v := (-2)) hx hb d_Statement_begin_34 (by decide) ?_
  obtain ⟨σ8, e_σ8, hf⟩ := zq_ss hf
  refine zr_puti (ci := 6) G hw x0 6 zi_6 t_zd6 t_zd6_ok n_zd6 hs1 rfl rfl (by decide) rfl zm_8 (fun _ h => h) rfl (x := ((-2))) (t_zd6_ok 6 (by decide)) rfl rfl d_Statement_begin_36 (fun H locs hw => ?_)
  rw [← e_σ8] at hw
  refine lv_aload_n hx hb d_Statement_begin_39 rfl (lv_at hl 0 rfl) ?_
  refine lv_bipush (v := (-2)) hx hb d_Statement_begin_40 (by decide) ?_
  obtain ⟨σ9, e_σ9, hf⟩ := zq_ss hf
  refine zr_puti (ci := 6) G hw x0 7 zi_6 t_zd6 t_zd6_ok n_zd6 hs1 rfl rfl (by decide) rfl zm_9 (fun _ h => h) rfl (x := ((-2))) (t_zd6_ok 7 (by decide)) rfl rfl d_Statement_begin_42 (fun H locs hw => ?_)
  rw [← e_σ9] at hw
  refine lv_aload_n hx hb d_Statement_begin_45 rfl (lv_at hl 0 rfl) ?_
  refine lv_iconst (v := 0) hx hb d_Statement_begin_46 (by decide) ?_
  obtain ⟨σ10, e_σ10, hf⟩ := zq_ss hf
  refine zr_puti (ci := 6) G hw x0 8 zi_6 t_zd6 t_zd6_ok n_zd6 hs1 rfl rfl (by decide) rfl zm_10 (fun _ h => h) rfl (x := 0) (t_zd6_ok 8 (by decide)) rfl rfl d_Statement_begin_47 (fun H locs hw => ?_)
  rw [← e_σ10] at hw
  exact zr_vret G hw hr hlocks hf hQ d_Statement_begin_50
/-! ScheduleCheck$Statement.needsOwner -/
def y_Statement_needsOwner : MethodName := ⟨"ScheduleCheck$Statement","needsOwner","()Z"⟩
theorem d_Statement_needsOwner_0 : decode prog_8_method_3_code 0 = .ok (.aload_n 0, 1) := by decide +kernel
theorem d_Statement_needsOwner_1 : decode prog_8_method_3_code 1 = .ok (.getfield 15, 3) := by decide +kernel
theorem d_Statement_needsOwner_4 : decode prog_8_method_3_code 4 = .ok (.getstatic 45, 3) := by decide +kernel
theorem d_Statement_needsOwner_7 : decode prog_8_method_3_code 7 = .ok (.if_acmp .eq 33, 3) := by decide +kernel
theorem d_Statement_needsOwner_10 : decode prog_8_method_3_code 10 = .ok (.aload_n 0, 1) := by decide +kernel
theorem d_Statement_needsOwner_11 : decode prog_8_method_3_code 11 = .ok (.getfield 15, 3) := by decide +kernel
theorem d_Statement_needsOwner_14 : decode prog_8_method_3_code 14 = .ok (.getstatic 48, 3) := by decide +kernel
theorem d_Statement_needsOwner_17 : decode prog_8_method_3_code 17 = .ok (.if_acmp .eq 23, 3) := by decide +kernel
theorem d_Statement_needsOwner_20 : decode prog_8_method_3_code 20 = .ok (.aload_n 0, 1) := by decide +kernel
theorem d_Statement_needsOwner_21 : decode prog_8_method_3_code 21 = .ok (.getfield 15, 3) := by decide +kernel
theorem d_Statement_needsOwner_24 : decode prog_8_method_3_code 24 = .ok (.getstatic 51, 3) := by decide +kernel
theorem d_Statement_needsOwner_27 : decode prog_8_method_3_code 27 = .ok (.if_acmp .eq 13, 3) := by decide +kernel
theorem d_Statement_needsOwner_30 : decode prog_8_method_3_code 30 = .ok (.aload_n 0, 1) := by decide +kernel
theorem d_Statement_needsOwner_31 : decode prog_8_method_3_code 31 = .ok (.getfield 15, 3) := by decide +kernel
theorem d_Statement_needsOwner_34 : decode prog_8_method_3_code 34 = .ok (.getstatic 54, 3) := by decide +kernel
theorem d_Statement_needsOwner_37 : decode prog_8_method_3_code 37 = .ok (.if_acmp .ne 7, 3) := by decide +kernel
theorem d_Statement_needsOwner_40 : decode prog_8_method_3_code 40 = .ok (.iconst 1, 1) := by decide +kernel
theorem d_Statement_needsOwner_41 : decode prog_8_method_3_code 41 = .ok (.goto 4, 3) := by decide +kernel
theorem d_Statement_needsOwner_44 : decode prog_8_method_3_code 44 = .ok (.iconst 0, 1) := by decide +kernel
theorem d_Statement_needsOwner_45 : decode prog_8_method_3_code 45 = .ok (.ireturn, 1) := by decide +kernel
def zf_Statement_needsOwner_45 (F : Nat)  (t0 : Int32) (σ : zs_S) : Option (Int32 × zs_S) :=
  zq_g (zq_z t0) <|
  some (t0, σ)
def zf_Statement_needsOwner_40 (F : Nat)   (σ : zs_S) : Option (Int32 × zs_S) :=
  zf_Statement_needsOwner_45 F 1 σ
def zf_Statement_needsOwner (F : Nat) (x0 : Nat) (σ : zs_S) : Option (Int32 × zs_S) :=
  zq_g (zq_k 0 x0 16) <|
  zq_q (zs_r σ x0 0) fun q2 =>
  zq_g (decide (q2 < 1200)) <|
  if q2 = 1102 then (
    zf_Statement_needsOwner_40 F σ
  ) else (
    zq_q (zs_r σ x0 0) fun q4 =>
    zq_g (decide (q4 < 1200)) <|
    if q4 = 1103 then (
      zf_Statement_needsOwner_40 F σ
    ) else (
      zq_q (zs_r σ x0 0) fun q6 =>
      zq_g (decide (q6 < 1200)) <|
      if q6 = 1104 then (
        zf_Statement_needsOwner_40 F σ
      ) else (
        zq_q (zs_r σ x0 0) fun q8 =>
        zq_g (decide (q8 < 1200)) <|
        if q8 = 1105 then (
          zf_Statement_needsOwner_40 F σ
        ) else (
          zf_Statement_needsOwner_45 F 0 σ
        )
      )
    )
  )
set_option maxHeartbeats 4000000 in
set_option maxRecDepth 100000 in
theorem zc_Statement_needsOwner {l : Launch} {D : va_G} {cA : Nat → ClassId} {ad : Nat → Nat} {A : Nat → Prop} {F : Nat} {x0 : Nat} {σ : zs_S} {q : Int32 × zs_S} (hJ : zs_J ad) (hf : zf_Statement_needsOwner F x0 σ = some q) : Met l y_Statement_needsOwner (.code y_Statement_needsOwner prog_8_method_3_code 1 (some .boolean) :: zd_ww) { frames := 0, cells := 0, slots := 0, locals := 0 } (va_Pc [.ref (ad x0)] (zs_U 0 D cA ad A σ)) (zs_Qi 0 D cA ad A q) 0 0 A := by
  refine Met.ofW (cc := prog_8_method_3_code) (maxL := 1) (ret := (some .boolean)) (by decide) rfl ?_
  intro p e s m args below meth c s₁ B hml hv
  obtain ⟨hargs, hP, hK, hD, hZ⟩ := hv
  have G : zs_G 0 p s m args c prog_8_method_3_code 1 "ScheduleCheck$Statement" D cA ad A := ⟨⟨B.exec, B.bytes, hml, findClass_of_methodNamed B.named, fun w h => atoms_spec B.pre w (List.mem_cons_of_mem _ h)⟩, hK, hJ, hZ⟩
  have hw : zs_I 0 D cA ad A s σ s.heap [] := ⟨hP, hD, va_S.rf⟩
  have hx := G.1.1
  have hb := G.1.2.1
  have hown := G.1.2.2.2.1
  have hts := G.1.2.2.2.2
  have hr := B.returns
  have hlocks := B.notSynchronized
  have he : entryFrame m args 1 = F0 m 0 ((lg_sl [.ref (ad x0)] ++ List.replicate (1 - (lg_sl [.ref (ad x0)]).length) Slot.unset).toArray) [] := by rw [hargs]; exact lg_entry_eq m _ 1
  have hl := lv_entry [.ref (ad x0)] (n := 1) (Nat.le_of_ble_eq_true rfl)
  rw [he]
  generalize (lg_sl [.ref (ad x0)] ++ List.replicate (1 - (lg_sl [.ref (ad x0)]).length) Slot.unset).toArray = ls at hl
  have hl : lv_has ls 1 [(0, .ref (ad x0))] := hl
  obtain ⟨RR, hR⟩ : ∃ z, z = (headSpec (.code y_Statement_needsOwner prog_8_method_3_code 1 (some .boolean) :: zd_ww) { frames := 0, cells := 0, slots := 0, locals := 0 }).room := ⟨_, rfl⟩
  rw [← hR]
  obtain ⟨QQ, hQ⟩ : ∃ z, z = MQ below (zs_Qi 0 D cA ad A q) args s 0 0 A := ⟨_, rfl⟩
  rw [← hQ]
  have hR1 : 0 ≤ RR.frames := by rw [hR]; exact Nat.le_refl _
  have hR2 : 0 ≤ RR.locals := by rw [hR]; exact Nat.le_refl _
  generalize s.heap = H at hw ⊢
  generalize ([] : List Loc) = locs at hw ⊢
  have K45 : ∀ (t0 : Int32) (σ : zs_S) (H : Heap) (locs : List Loc) (ls : Array Slot), zf_Statement_needsOwner_45 F t0 σ = some q → zs_I 0 D cA ad A s σ H locs → lv_has ls 1 [] → W p l e RR s m args below meth c H locs 0 0 QQ (F0 m 45 ls [.int t0]) := by
    intro  t0 σ H locs ls hf hw hl
    unfold zf_Statement_needsOwner_45 at hf
    obtain ⟨hz, hf⟩ := zq_gs hf
    exact zr_zret G hw hr hlocks hz hf hQ d_Statement_needsOwner_45
  have K40 : ∀ (σ : zs_S) (H : Heap) (locs : List Loc) (ls : Array Slot), zf_Statement_needsOwner_40 F σ = some q → zs_I 0 D cA ad A s σ H locs → lv_has ls 1 [] → W p l e RR s m args below meth c H locs 0 0 QQ (F0 m 40 ls []) := by
    intro   σ H locs ls hf hw hl
    unfold zf_Statement_needsOwner_40 at hf
    refine lv_iconst (v := 1) hx hb d_Statement_needsOwner_40 (by decide) ?_
    refine lv_goto hx hb d_Statement_needsOwner_41 (tgt := 45) rfl ?_
    exact K45 1 σ H locs ls hf hw (lv_sub hl [] rfl)
  unfold zf_Statement_needsOwner at hf
  refine lv_aload_n hx hb d_Statement_needsOwner_0 rfl (lv_at hl 0 rfl) ?_
  obtain ⟨hs1, hf⟩ := zq_gs hf
  have hs1 := zq_ks hs1
  obtain ⟨q2, e_q2, h_q2, hf⟩ := zq_qs hf
  refine zr_get (ci := 6) G hw x0 0 zi_6 hs1 rfl rfl (by decide) zm_2 (fun _ h => h) (v := .ref (ad q2)) (zs_fr rfl e_q2 h_q2) d_Statement_needsOwner_1 ?_
  refine va_gets (C := "ScheduleCheck$Kind") (n := "GIVE") (d := "LScheduleCheck$Kind;") (v := .ref (ad 1102)) hx hb ((G.2.2.2.1 rfl).2.2.1.1 2 (by decide)).1 hw.2.2 hown (hts _ zm_11) (fun _ h => h) d_Statement_needsOwner_4 ?_
  obtain ⟨hm3, hf⟩ := zq_gs hf
  refine zr_aeq G (of_decide_eq_true hm3) (by decide) d_Statement_needsOwner_7 (tgt := 40) rfl (fun hc => ?_) (fun hc => ?_)
  · have hf := (if_pos hc).symm.trans hf
    exact K40 σ H locs ls hf hw (lv_sub hl [] rfl)
  · have hf := (if_neg hc).symm.trans hf
    refine lv_aload_n hx hb d_Statement_needsOwner_10 rfl (lv_at hl 0 rfl) ?_
    obtain ⟨q4, e_q4, h_q4, hf⟩ := zq_qs hf
    refine zr_get (ci := 6) G hw x0 0 zi_6 hs1 rfl rfl (by decide) zm_2 (fun _ h => h) (v := .ref (ad q4)) (zs_fr rfl e_q4 h_q4) d_Statement_needsOwner_11 ?_
    refine va_gets (C := "ScheduleCheck$Kind") (n := "WAIT") (d := "LScheduleCheck$Kind;") (v := .ref (ad 1103)) hx hb ((G.2.2.2.1 rfl).2.2.1.1 3 (by decide)).1 hw.2.2 hown (hts _ zm_12) (fun _ h => h) d_Statement_needsOwner_14 ?_
    obtain ⟨hm5, hf⟩ := zq_gs hf
    refine zr_aeq G (of_decide_eq_true hm5) (by decide) d_Statement_needsOwner_17 (tgt := 40) rfl (fun hc => ?_) (fun hc => ?_)
    · have hf := (if_pos hc).symm.trans hf
      exact K40 σ H locs ls hf hw (lv_sub hl [] rfl)
    · have hf := (if_neg hc).symm.trans hf
      refine lv_aload_n hx hb d_Statement_needsOwner_20 rfl (lv_at hl 0 rfl) ?_
      obtain ⟨q6, e_q6, h_q6, hf⟩ := zq_qs hf
      refine zr_get (ci := 6) G hw x0 0 zi_6 hs1 rfl rfl (by decide) zm_2 (fun _ h => h) (v := .ref (ad q6)) (zs_fr rfl e_q6 h_q6) d_Statement_needsOwner_21 ?_
      refine va_gets (C := "ScheduleCheck$Kind") (n := "WAKE") (d := "LScheduleCheck$Kind;") (v := .ref (ad 1104)) hx hb ((G.2.2.2.1 rfl).2.2.1.1 4 (by decide)).1 hw.2.2 hown (hts _ zm_13) (fun _ h => h) d_Statement_needsOwner_24 ?_
      obtain ⟨hm7, hf⟩ := zq_gs hf
      refine zr_aeq G (of_decide_eq_true hm7) (by decide) d_Statement_needsOwner_27 (tgt := 40) rfl (fun hc => ?_) (fun hc => ?_)
      · have hf := (if_pos hc).symm.trans hf
        exact K40 σ H locs ls hf hw (lv_sub hl [] rfl)
      · have hf := (if_neg hc).symm.trans hf
        refine lv_aload_n hx hb d_Statement_needsOwner_30 rfl (lv_at hl 0 rfl) ?_
        obtain ⟨q8, e_q8, h_q8, hf⟩ := zq_qs hf
        refine zr_get (ci := 6) G hw x0 0 zi_6 hs1 rfl rfl (by decide) zm_2 (fun _ h => h) (v := .ref (ad q8)) (zs_fr rfl e_q8 h_q8) d_Statement_needsOwner_31 ?_
        refine va_gets (C := "ScheduleCheck$Kind") (n := "WAKE_ALL") (d := "LScheduleCheck$Kind;") (v := .ref (ad 1105)) hx hb ((G.2.2.2.1 rfl).2.2.1.1 5 (by decide)).1 hw.2.2 hown (hts _ zm_14) (fun _ h => h) d_Statement_needsOwner_34 ?_
        obtain ⟨hm9, hf⟩ := zq_gs hf
        refine zr_ane G (of_decide_eq_true hm9) (by decide) d_Statement_needsOwner_37 (tgt := 44) rfl (fun hc => ?_) (fun hc => ?_)
        · have hf := (if_neg hc).symm.trans hf
          refine lv_iconst (v := 0) hx hb d_Statement_needsOwner_44 (by decide) ?_
          exact K45 0 σ H locs ls hf hw (lv_sub hl [] rfl)
        · have hf := (if_pos hc).symm.trans hf
          exact K40 σ H locs ls hf hw (lv_sub hl [] rfl)
/-! ScheduleCheck$Statement.uses -/
def y_Statement_uses : MethodName := ⟨"ScheduleCheck$Statement","uses","(I)Z"⟩
theorem d_Statement_uses_0 : decode prog_8_method_4_code 0 = .ok (.aload_n 0, 1) := by decide +kernel
theorem d_Statement_uses_1 : decode prog_8_method_4_code 1 = .ok (.getfield 42, 3) := by decide +kernel
theorem d_Statement_uses_4 : decode prog_8_method_4_code 4 = .ok (.iload_n 1, 1) := by decide +kernel
theorem d_Statement_uses_5 : decode prog_8_method_4_code 5 = .ok (.ishr, 1) := by decide +kernel
theorem d_Statement_uses_6 : decode prog_8_method_4_code 6 = .ok (.iconst 1, 1) := by decide +kernel
theorem d_Statement_uses_7 : decode prog_8_method_4_code 7 = .ok (.iand, 1) := by decide +kernel
theorem d_Statement_uses_8 : decode prog_8_method_4_code 8 = .ok (.ifCond .eq 7, 3) := by decide +kernel
theorem d_Statement_uses_11 : decode prog_8_method_4_code 11 = .ok (.iconst 1, 1) := by decide +kernel
theorem d_Statement_uses_12 : decode prog_8_method_4_code 12 = .ok (.goto 4, 3) := by decide +kernel
theorem d_Statement_uses_15 : decode prog_8_method_4_code 15 = .ok (.iconst 0, 1) := by decide +kernel
theorem d_Statement_uses_16 : decode prog_8_method_4_code 16 = .ok (.ireturn, 1) := by decide +kernel
def zf_Statement_uses_16 (F : Nat)  (t0 : Int32) (σ : zs_S) : Option (Int32 × zs_S) :=
  zq_g (zq_z t0) <|
  some (t0, σ)
def zf_Statement_uses (F : Nat) (x0 : Nat) (x1 : Int32) (σ : zs_S) : Option (Int32 × zs_S) :=
  zq_g (zq_k 0 x0 16) <|
  if (((zs_i σ x0 8) >>> (x1 &&& 31)) &&& 1) = 0 then (
    zf_Statement_uses_16 F 0 σ
  ) else (
    zf_Statement_uses_16 F 1 σ
  )
set_option maxHeartbeats 4000000 in
set_option maxRecDepth 100000 in
theorem zc_Statement_uses {l : Launch} {D : va_G} {cA : Nat → ClassId} {ad : Nat → Nat} {A : Nat → Prop} {F : Nat} {x0 : Nat} {x1 : Int32} {σ : zs_S} {q : Int32 × zs_S} (hJ : zs_J ad) (hf : zf_Statement_uses F x0 x1 σ = some q) : Met l y_Statement_uses (.code y_Statement_uses prog_8_method_4_code 2 (some .boolean) :: zd_ww) { frames := 0, cells := 0, slots := 0, locals := 0 } (va_Pc [.ref (ad x0), .int x1] (zs_U 0 D cA ad A σ)) (zs_Qi 0 D cA ad A q) 0 0 A := by
  refine Met.ofW (cc := prog_8_method_4_code) (maxL := 2) (ret := (some .boolean)) (by decide) rfl ?_
  intro p e s m args below meth c s₁ B hml hv
  obtain ⟨hargs, hP, hK, hD, hZ⟩ := hv
  have G : zs_G 0 p s m args c prog_8_method_4_code 2 "ScheduleCheck$Statement" D cA ad A := ⟨⟨B.exec, B.bytes, hml, findClass_of_methodNamed B.named, fun w h => atoms_spec B.pre w (List.mem_cons_of_mem _ h)⟩, hK, hJ, hZ⟩
  have hw : zs_I 0 D cA ad A s σ s.heap [] := ⟨hP, hD, va_S.rf⟩
  have hx := G.1.1
  have hb := G.1.2.1
  have hown := G.1.2.2.2.1
  have hts := G.1.2.2.2.2
  have hr := B.returns
  have hlocks := B.notSynchronized
  have he : entryFrame m args 2 = F0 m 0 ((lg_sl [.ref (ad x0), .int x1] ++ List.replicate (2 - (lg_sl [.ref (ad x0), .int x1]).length) Slot.unset).toArray) [] := by rw [hargs]; exact lg_entry_eq m _ 2
  have hl := lv_entry [.ref (ad x0), .int x1] (n := 2) (Nat.le_of_ble_eq_true rfl)
  rw [he]
  generalize (lg_sl [.ref (ad x0), .int x1] ++ List.replicate (2 - (lg_sl [.ref (ad x0), .int x1]).length) Slot.unset).toArray = ls at hl
  have hl : lv_has ls 2 [(0, .ref (ad x0)), (1, .int x1)] := hl
  obtain ⟨RR, hR⟩ : ∃ z, z = (headSpec (.code y_Statement_uses prog_8_method_4_code 2 (some .boolean) :: zd_ww) { frames := 0, cells := 0, slots := 0, locals := 0 }).room := ⟨_, rfl⟩
  rw [← hR]
  obtain ⟨QQ, hQ⟩ : ∃ z, z = MQ below (zs_Qi 0 D cA ad A q) args s 0 0 A := ⟨_, rfl⟩
  rw [← hQ]
  have hR1 : 0 ≤ RR.frames := by rw [hR]; exact Nat.le_refl _
  have hR2 : 0 ≤ RR.locals := by rw [hR]; exact Nat.le_refl _
  generalize s.heap = H at hw ⊢
  generalize ([] : List Loc) = locs at hw ⊢
  have K16 : ∀ (t0 : Int32) (σ : zs_S) (H : Heap) (locs : List Loc) (ls : Array Slot), zf_Statement_uses_16 F t0 σ = some q → zs_I 0 D cA ad A s σ H locs → lv_has ls 2 [] → W p l e RR s m args below meth c H locs 0 0 QQ (F0 m 16 ls [.int t0]) := by
    intro  t0 σ H locs ls hf hw hl
    unfold zf_Statement_uses_16 at hf
    obtain ⟨hz, hf⟩ := zq_gs hf
    exact zr_zret G hw hr hlocks hz hf hQ d_Statement_uses_16
  unfold zf_Statement_uses at hf
  refine lv_aload_n hx hb d_Statement_uses_0 rfl (lv_at hl 0 rfl) ?_
  obtain ⟨hs1, hf⟩ := zq_gs hf
  have hs1 := zq_ks hs1
  refine zr_get (ci := 6) G hw x0 8 zi_6 hs1 rfl rfl (by decide) zm_10 (fun _ h => h) (v := .int (zs_i σ x0 8)) rfl d_Statement_uses_1 ?_
  refine lv_iload_n hx hb d_Statement_uses_4 rfl (lv_at hl 1 rfl) ?_
  refine lv_ishr hx hb d_Statement_uses_5 ?_
  refine lv_iconst (v := 1) hx hb d_Statement_uses_6 (by decide) ?_
  refine lv_iand hx hb d_Statement_uses_7 ?_
  refine lv_if_eq hx hb d_Statement_uses_8 (tgt := 15) rfl (fun hc => ?_) (fun hc => ?_)
  · have hf := (if_pos hc).symm.trans hf
    refine lv_iconst (v := 0) hx hb d_Statement_uses_15 (by decide) ?_
    exact K16 0 σ H locs ls hf hw (lv_sub hl [] rfl)
  · have hf := (if_neg hc).symm.trans hf
    refine lv_iconst (v := 1) hx hb d_Statement_uses_11 (by decide) ?_
    refine lv_goto hx hb d_Statement_uses_12 (tgt := 16) rfl ?_
    exact K16 1 σ H locs ls hf hw (lv_sub hl [] rfl)
/-! ScheduleCheck$Statement.assigns -/
def y_Statement_assigns : MethodName := ⟨"ScheduleCheck$Statement","assigns","(I)Z"⟩
theorem d_Statement_assigns_0 : decode prog_8_method_5_code 0 = .ok (.aload_n 0, 1) := by decide +kernel
theorem d_Statement_assigns_1 : decode prog_8_method_5_code 1 = .ok (.getfield 15, 3) := by decide +kernel
theorem d_Statement_assigns_4 : decode prog_8_method_5_code 4 = .ok (.getstatic 57, 3) := by decide +kernel
theorem d_Statement_assigns_7 : decode prog_8_method_5_code 7 = .ok (.if_acmp .ne 15, 3) := by decide +kernel
theorem d_Statement_assigns_10 : decode prog_8_method_5_code 10 = .ok (.aload_n 0, 1) := by decide +kernel
theorem d_Statement_assigns_11 : decode prog_8_method_5_code 11 = .ok (.getfield 24, 3) := by decide +kernel
theorem d_Statement_assigns_14 : decode prog_8_method_5_code 14 = .ok (.iload_n 1, 1) := by decide +kernel
theorem d_Statement_assigns_15 : decode prog_8_method_5_code 15 = .ok (.if_icmp .ne 7, 3) := by decide +kernel
theorem d_Statement_assigns_18 : decode prog_8_method_5_code 18 = .ok (.iconst 1, 1) := by decide +kernel
theorem d_Statement_assigns_19 : decode prog_8_method_5_code 19 = .ok (.goto 4, 3) := by decide +kernel
theorem d_Statement_assigns_22 : decode prog_8_method_5_code 22 = .ok (.iconst 0, 1) := by decide +kernel
theorem d_Statement_assigns_23 : decode prog_8_method_5_code 23 = .ok (.ireturn, 1) := by decide +kernel
def zf_Statement_assigns_23 (F : Nat)  (t0 : Int32) (σ : zs_S) : Option (Int32 × zs_S) :=
  zq_g (zq_z t0) <|
  some (t0, σ)
def zf_Statement_assigns_22 (F : Nat)   (σ : zs_S) : Option (Int32 × zs_S) :=
  zf_Statement_assigns_23 F 0 σ
def zf_Statement_assigns (F : Nat) (x0 : Nat) (x1 : Int32) (σ : zs_S) : Option (Int32 × zs_S) :=
  zq_g (zq_k 0 x0 16) <|
  zq_q (zs_r σ x0 0) fun q2 =>
  zq_g (decide (q2 < 1200)) <|
  if q2 = 1100 then (
    if (zs_i σ x0 2) = x1 then (
      zf_Statement_assigns_23 F 1 σ
    ) else (
      zf_Statement_assigns_22 F σ
    )
  ) else (
    zf_Statement_assigns_22 F σ
  )
set_option maxHeartbeats 4000000 in
set_option maxRecDepth 100000 in
theorem zc_Statement_assigns {l : Launch} {D : va_G} {cA : Nat → ClassId} {ad : Nat → Nat} {A : Nat → Prop} {F : Nat} {x0 : Nat} {x1 : Int32} {σ : zs_S} {q : Int32 × zs_S} (hJ : zs_J ad) (hf : zf_Statement_assigns F x0 x1 σ = some q) : Met l y_Statement_assigns (.code y_Statement_assigns prog_8_method_5_code 2 (some .boolean) :: zd_ww) { frames := 0, cells := 0, slots := 0, locals := 0 } (va_Pc [.ref (ad x0), .int x1] (zs_U 0 D cA ad A σ)) (zs_Qi 0 D cA ad A q) 0 0 A := by
  refine Met.ofW (cc := prog_8_method_5_code) (maxL := 2) (ret := (some .boolean)) (by decide) rfl ?_
  intro p e s m args below meth c s₁ B hml hv
  obtain ⟨hargs, hP, hK, hD, hZ⟩ := hv
  have G : zs_G 0 p s m args c prog_8_method_5_code 2 "ScheduleCheck$Statement" D cA ad A := ⟨⟨B.exec, B.bytes, hml, findClass_of_methodNamed B.named, fun w h => atoms_spec B.pre w (List.mem_cons_of_mem _ h)⟩, hK, hJ, hZ⟩
  have hw : zs_I 0 D cA ad A s σ s.heap [] := ⟨hP, hD, va_S.rf⟩
  have hx := G.1.1
  have hb := G.1.2.1
  have hown := G.1.2.2.2.1
  have hts := G.1.2.2.2.2
  have hr := B.returns
  have hlocks := B.notSynchronized
  have he : entryFrame m args 2 = F0 m 0 ((lg_sl [.ref (ad x0), .int x1] ++ List.replicate (2 - (lg_sl [.ref (ad x0), .int x1]).length) Slot.unset).toArray) [] := by rw [hargs]; exact lg_entry_eq m _ 2
  have hl := lv_entry [.ref (ad x0), .int x1] (n := 2) (Nat.le_of_ble_eq_true rfl)
  rw [he]
  generalize (lg_sl [.ref (ad x0), .int x1] ++ List.replicate (2 - (lg_sl [.ref (ad x0), .int x1]).length) Slot.unset).toArray = ls at hl
  have hl : lv_has ls 2 [(0, .ref (ad x0)), (1, .int x1)] := hl
  obtain ⟨RR, hR⟩ : ∃ z, z = (headSpec (.code y_Statement_assigns prog_8_method_5_code 2 (some .boolean) :: zd_ww) { frames := 0, cells := 0, slots := 0, locals := 0 }).room := ⟨_, rfl⟩
  rw [← hR]
  obtain ⟨QQ, hQ⟩ : ∃ z, z = MQ below (zs_Qi 0 D cA ad A q) args s 0 0 A := ⟨_, rfl⟩
  rw [← hQ]
  have hR1 : 0 ≤ RR.frames := by rw [hR]; exact Nat.le_refl _
  have hR2 : 0 ≤ RR.locals := by rw [hR]; exact Nat.le_refl _
  generalize s.heap = H at hw ⊢
  generalize ([] : List Loc) = locs at hw ⊢
  have K23 : ∀ (t0 : Int32) (σ : zs_S) (H : Heap) (locs : List Loc) (ls : Array Slot), zf_Statement_assigns_23 F t0 σ = some q → zs_I 0 D cA ad A s σ H locs → lv_has ls 2 [] → W p l e RR s m args below meth c H locs 0 0 QQ (F0 m 23 ls [.int t0]) := by
    intro  t0 σ H locs ls hf hw hl
    unfold zf_Statement_assigns_23 at hf
    obtain ⟨hz, hf⟩ := zq_gs hf
    exact zr_zret G hw hr hlocks hz hf hQ d_Statement_assigns_23
  have K22 : ∀ (σ : zs_S) (H : Heap) (locs : List Loc) (ls : Array Slot), zf_Statement_assigns_22 F σ = some q → zs_I 0 D cA ad A s σ H locs → lv_has ls 2 [] → W p l e RR s m args below meth c H locs 0 0 QQ (F0 m 22 ls []) := by
    intro   σ H locs ls hf hw hl
    unfold zf_Statement_assigns_22 at hf
    refine lv_iconst (v := 0) hx hb d_Statement_assigns_22 (by decide) ?_
    exact K23 0 σ H locs ls hf hw (lv_sub hl [] rfl)
  unfold zf_Statement_assigns at hf
  refine lv_aload_n hx hb d_Statement_assigns_0 rfl (lv_at hl 0 rfl) ?_
  obtain ⟨hs1, hf⟩ := zq_gs hf
  have hs1 := zq_ks hs1
  obtain ⟨q2, e_q2, h_q2, hf⟩ := zq_qs hf
  refine zr_get (ci := 6) G hw x0 0 zi_6 hs1 rfl rfl (by decide) zm_2 (fun _ h => h) (v := .ref (ad q2)) (zs_fr rfl e_q2 h_q2) d_Statement_assigns_1 ?_
  refine va_gets (C := "ScheduleCheck$Kind") (n := "ASSIGN") (d := "LScheduleCheck$Kind;") (v := .ref (ad 1100)) hx hb ((G.2.2.2.1 rfl).2.2.1.1 0 (by decide)).1 hw.2.2 hown (hts _ zm_15) (fun _ h => h) d_Statement_assigns_4 ?_
  obtain ⟨hm3, hf⟩ := zq_gs hf
  refine zr_ane G (of_decide_eq_true hm3) (by decide) d_Statement_assigns_7 (tgt := 22) rfl (fun hc => ?_) (fun hc => ?_)
  · have hf := (if_neg hc).symm.trans hf
    exact K22 σ H locs ls hf hw (lv_sub hl [] rfl)
  · have hf := (if_pos hc).symm.trans hf
    refine lv_aload_n hx hb d_Statement_assigns_10 rfl (lv_at hl 0 rfl) ?_
    refine zr_get (ci := 6) G hw x0 2 zi_6 hs1 rfl rfl (by decide) zm_4 (fun _ h => h) (v := .int (zs_i σ x0 2)) rfl d_Statement_assigns_11 ?_
    refine lv_iload_n hx hb d_Statement_assigns_14 rfl (lv_at hl 1 rfl) ?_
    refine lv_icmp_ne hx hb d_Statement_assigns_15 (tgt := 22) rfl (fun hc => ?_) (fun hc => ?_)
    · have hf := (if_neg hc).symm.trans hf
      exact K22 σ H locs ls hf hw (lv_sub hl [] rfl)
    · have hf := (if_pos hc).symm.trans hf
      refine lv_iconst (v := 1) hx hb d_Statement_assigns_18 (by decide) ?_
      refine lv_goto hx hb d_Statement_assigns_19 (tgt := 23) rfl ?_
      exact K23 1 σ H locs ls hf hw (lv_sub hl [] rfl)
/-! ScheduleCheck$Tokens.isLetter -/
def y_Tokens_isLetter : MethodName := ⟨"ScheduleCheck$Tokens","isLetter","(I)Z"⟩
theorem d_Tokens_isLetter_0 : decode prog_11_method_7_code 0 = .ok (.iload_n 0, 1) := by decide +kernel
theorem d_Tokens_isLetter_1 : decode prog_11_method_7_code 1 = .ok (.bipush 97, 2) := by decide +kernel
theorem d_Tokens_isLetter_3 : decode prog_11_method_7_code 3 = .ok (.if_icmp .lt 13, 3) := by decide +kernel
theorem d_Tokens_isLetter_6 : decode prog_11_method_7_code 6 = .ok (.iload_n 0, 1) := by decide +kernel
theorem d_Tokens_isLetter_7 : decode prog_11_method_7_code 7 = .ok (.bipush 122, 2) := by decide +kernel
theorem d_Tokens_isLetter_9 : decode prog_11_method_7_code 9 = .ok (.if_icmp .gt 7, 3) := by decide +kernel
theorem d_Tokens_isLetter_12 : decode prog_11_method_7_code 12 = .ok (.iconst 1, 1) := by decide +kernel
theorem d_Tokens_isLetter_13 : decode prog_11_method_7_code 13 = .ok (.goto 4, 3) := by decide +kernel
theorem d_Tokens_isLetter_16 : decode prog_11_method_7_code 16 = .ok (.iconst 0, 1) := by decide +kernel
theorem d_Tokens_isLetter_17 : decode prog_11_method_7_code 17 = .ok (.ireturn, 1) := by decide +kernel
def zf_Tokens_isLetter_17 (F : Nat)  (t0 : Int32) (σ : zs_S) : Option (Int32 × zs_S) :=
  zq_g (zq_z t0) <|
  some (t0, σ)
def zf_Tokens_isLetter_16 (F : Nat)   (σ : zs_S) : Option (Int32 × zs_S) :=
  zf_Tokens_isLetter_17 F 0 σ
def zf_Tokens_isLetter (F : Nat) (x0 : Int32) (σ : zs_S) : Option (Int32 × zs_S) :=
  if x0 < 97 then (
    zf_Tokens_isLetter_16 F σ
  ) else (
    if 122 < x0 then (
      zf_Tokens_isLetter_16 F σ
    ) else (
      zf_Tokens_isLetter_17 F 1 σ
    )
  )
set_option maxHeartbeats 4000000 in
set_option maxRecDepth 100000 in
theorem zc_Tokens_isLetter {l : Launch} {D : va_G} {cA : Nat → ClassId} {ad : Nat → Nat} {A : Nat → Prop} {F : Nat} {x0 : Int32} {σ : zs_S} {q : Int32 × zs_S} (hJ : zs_J ad) (hf : zf_Tokens_isLetter F x0 σ = some q) : Met l y_Tokens_isLetter (.code y_Tokens_isLetter prog_11_method_7_code 1 (some .boolean) :: zd_ww) { frames := 0, cells := 0, slots := 0, locals := 0 } (va_Pc [.int x0] (zs_U 0 D cA ad A σ)) (zs_Qi 0 D cA ad A q) 0 0 A := by
  refine Met.ofW (cc := prog_11_method_7_code) (maxL := 1) (ret := (some .boolean)) (by decide) rfl ?_
  intro p e s m args below meth c s₁ B hml hv
  obtain ⟨hargs, hP, hK, hD, hZ⟩ := hv
  have G : zs_G 0 p s m args c prog_11_method_7_code 1 "ScheduleCheck$Tokens" D cA ad A := ⟨⟨B.exec, B.bytes, hml, findClass_of_methodNamed B.named, fun w h => atoms_spec B.pre w (List.mem_cons_of_mem _ h)⟩, hK, hJ, hZ⟩
  have hw : zs_I 0 D cA ad A s σ s.heap [] := ⟨hP, hD, va_S.rf⟩
  have hx := G.1.1
  have hb := G.1.2.1
  have hown := G.1.2.2.2.1
  have hts := G.1.2.2.2.2
  have hr := B.returns
  have hlocks := B.notSynchronized
  have he : entryFrame m args 1 = F0 m 0 ((lg_sl [.int x0] ++ List.replicate (1 - (lg_sl [.int x0]).length) Slot.unset).toArray) [] := by rw [hargs]; exact lg_entry_eq m _ 1
  have hl := lv_entry [.int x0] (n := 1) (Nat.le_of_ble_eq_true rfl)
  rw [he]
  generalize (lg_sl [.int x0] ++ List.replicate (1 - (lg_sl [.int x0]).length) Slot.unset).toArray = ls at hl
  have hl : lv_has ls 1 [(0, .int x0)] := hl
  obtain ⟨RR, hR⟩ : ∃ z, z = (headSpec (.code y_Tokens_isLetter prog_11_method_7_code 1 (some .boolean) :: zd_ww) { frames := 0, cells := 0, slots := 0, locals := 0 }).room := ⟨_, rfl⟩
  rw [← hR]
  obtain ⟨QQ, hQ⟩ : ∃ z, z = MQ below (zs_Qi 0 D cA ad A q) args s 0 0 A := ⟨_, rfl⟩
  rw [← hQ]
  have hR1 : 0 ≤ RR.frames := by rw [hR]; exact Nat.le_refl _
  have hR2 : 0 ≤ RR.locals := by rw [hR]; exact Nat.le_refl _
  generalize s.heap = H at hw ⊢
  generalize ([] : List Loc) = locs at hw ⊢
  have K17 : ∀ (t0 : Int32) (σ : zs_S) (H : Heap) (locs : List Loc) (ls : Array Slot), zf_Tokens_isLetter_17 F t0 σ = some q → zs_I 0 D cA ad A s σ H locs → lv_has ls 1 [] → W p l e RR s m args below meth c H locs 0 0 QQ (F0 m 17 ls [.int t0]) := by
    intro  t0 σ H locs ls hf hw hl
    unfold zf_Tokens_isLetter_17 at hf
    obtain ⟨hz, hf⟩ := zq_gs hf
    exact zr_zret G hw hr hlocks hz hf hQ d_Tokens_isLetter_17
  have K16 : ∀ (σ : zs_S) (H : Heap) (locs : List Loc) (ls : Array Slot), zf_Tokens_isLetter_16 F σ = some q → zs_I 0 D cA ad A s σ H locs → lv_has ls 1 [] → W p l e RR s m args below meth c H locs 0 0 QQ (F0 m 16 ls []) := by
    intro   σ H locs ls hf hw hl
    unfold zf_Tokens_isLetter_16 at hf
    refine lv_iconst (v := 0) hx hb d_Tokens_isLetter_16 (by decide) ?_
    exact K17 0 σ H locs ls hf hw (lv_sub hl [] rfl)
  unfold zf_Tokens_isLetter at hf
  refine lv_iload_n hx hb d_Tokens_isLetter_0 rfl (lv_at hl 0 rfl) ?_
  refine lv_bipush (v := 97) hx hb d_Tokens_isLetter_1 (by decide) ?_
  refine lv_icmp_lt hx hb d_Tokens_isLetter_3 (tgt := 16) rfl (fun hc => ?_) (fun hc => ?_)
  · have hf := (if_pos hc).symm.trans hf
    exact K16 σ H locs ls hf hw (lv_sub hl [] rfl)
  · have hf := (if_neg hc).symm.trans hf
    refine lv_iload_n hx hb d_Tokens_isLetter_6 rfl (lv_at hl 0 rfl) ?_
    refine lv_bipush (v := 122) hx hb d_Tokens_isLetter_7 (by decide) ?_
    refine lv_icmp_gt hx hb d_Tokens_isLetter_9 (tgt := 16) rfl (fun hc => ?_) (fun hc => ?_)
    · have hf := (if_pos hc).symm.trans hf
      exact K16 σ H locs ls hf hw (lv_sub hl [] rfl)
    · have hf := (if_neg hc).symm.trans hf
      refine lv_iconst (v := 1) hx hb d_Tokens_isLetter_12 (by decide) ?_
      refine lv_goto hx hb d_Tokens_isLetter_13 (tgt := 17) rfl ?_
      exact K17 1 σ H locs ls hf hw (lv_sub hl [] rfl)
/-! ScheduleCheck$Tokens.isDigit -/
def y_Tokens_isDigit : MethodName := ⟨"ScheduleCheck$Tokens","isDigit","(I)Z"⟩
theorem d_Tokens_isDigit_0 : decode prog_11_method_8_code 0 = .ok (.iload_n 0, 1) := by decide +kernel
theorem d_Tokens_isDigit_1 : decode prog_11_method_8_code 1 = .ok (.bipush 48, 2) := by decide +kernel
theorem d_Tokens_isDigit_3 : decode prog_11_method_8_code 3 = .ok (.if_icmp .lt 13, 3) := by decide +kernel
theorem d_Tokens_isDigit_6 : decode prog_11_method_8_code 6 = .ok (.iload_n 0, 1) := by decide +kernel
theorem d_Tokens_isDigit_7 : decode prog_11_method_8_code 7 = .ok (.bipush 57, 2) := by decide +kernel
theorem d_Tokens_isDigit_9 : decode prog_11_method_8_code 9 = .ok (.if_icmp .gt 7, 3) := by decide +kernel
theorem d_Tokens_isDigit_12 : decode prog_11_method_8_code 12 = .ok (.iconst 1, 1) := by decide +kernel
theorem d_Tokens_isDigit_13 : decode prog_11_method_8_code 13 = .ok (.goto 4, 3) := by decide +kernel
theorem d_Tokens_isDigit_16 : decode prog_11_method_8_code 16 = .ok (.iconst 0, 1) := by decide +kernel
theorem d_Tokens_isDigit_17 : decode prog_11_method_8_code 17 = .ok (.ireturn, 1) := by decide +kernel
def zf_Tokens_isDigit_17 (F : Nat)  (t0 : Int32) (σ : zs_S) : Option (Int32 × zs_S) :=
  zq_g (zq_z t0) <|
  some (t0, σ)
def zf_Tokens_isDigit_16 (F : Nat)   (σ : zs_S) : Option (Int32 × zs_S) :=
  zf_Tokens_isDigit_17 F 0 σ
def zf_Tokens_isDigit (F : Nat) (x0 : Int32) (σ : zs_S) : Option (Int32 × zs_S) :=
  if x0 < 48 then (
    zf_Tokens_isDigit_16 F σ
  ) else (
    if 57 < x0 then (
      zf_Tokens_isDigit_16 F σ
    ) else (
      zf_Tokens_isDigit_17 F 1 σ
    )
  )
set_option maxHeartbeats 4000000 in
set_option maxRecDepth 100000 in
theorem zc_Tokens_isDigit {l : Launch} {D : va_G} {cA : Nat → ClassId} {ad : Nat → Nat} {A : Nat → Prop} {F : Nat} {x0 : Int32} {σ : zs_S} {q : Int32 × zs_S} (hJ : zs_J ad) (hf : zf_Tokens_isDigit F x0 σ = some q) : Met l y_Tokens_isDigit (.code y_Tokens_isDigit prog_11_method_8_code 1 (some .boolean) :: zd_ww) { frames := 0, cells := 0, slots := 0, locals := 0 } (va_Pc [.int x0] (zs_U 0 D cA ad A σ)) (zs_Qi 0 D cA ad A q) 0 0 A := by
  refine Met.ofW (cc := prog_11_method_8_code) (maxL := 1) (ret := (some .boolean)) (by decide) rfl ?_
  intro p e s m args below meth c s₁ B hml hv
  obtain ⟨hargs, hP, hK, hD, hZ⟩ := hv
  have G : zs_G 0 p s m args c prog_11_method_8_code 1 "ScheduleCheck$Tokens" D cA ad A := ⟨⟨B.exec, B.bytes, hml, findClass_of_methodNamed B.named, fun w h => atoms_spec B.pre w (List.mem_cons_of_mem _ h)⟩, hK, hJ, hZ⟩
  have hw : zs_I 0 D cA ad A s σ s.heap [] := ⟨hP, hD, va_S.rf⟩
  have hx := G.1.1
  have hb := G.1.2.1
  have hown := G.1.2.2.2.1
  have hts := G.1.2.2.2.2
  have hr := B.returns
  have hlocks := B.notSynchronized
  have he : entryFrame m args 1 = F0 m 0 ((lg_sl [.int x0] ++ List.replicate (1 - (lg_sl [.int x0]).length) Slot.unset).toArray) [] := by rw [hargs]; exact lg_entry_eq m _ 1
  have hl := lv_entry [.int x0] (n := 1) (Nat.le_of_ble_eq_true rfl)
  rw [he]
  generalize (lg_sl [.int x0] ++ List.replicate (1 - (lg_sl [.int x0]).length) Slot.unset).toArray = ls at hl
  have hl : lv_has ls 1 [(0, .int x0)] := hl
  obtain ⟨RR, hR⟩ : ∃ z, z = (headSpec (.code y_Tokens_isDigit prog_11_method_8_code 1 (some .boolean) :: zd_ww) { frames := 0, cells := 0, slots := 0, locals := 0 }).room := ⟨_, rfl⟩
  rw [← hR]
  obtain ⟨QQ, hQ⟩ : ∃ z, z = MQ below (zs_Qi 0 D cA ad A q) args s 0 0 A := ⟨_, rfl⟩
  rw [← hQ]
  have hR1 : 0 ≤ RR.frames := by rw [hR]; exact Nat.le_refl _
  have hR2 : 0 ≤ RR.locals := by rw [hR]; exact Nat.le_refl _
  generalize s.heap = H at hw ⊢
  generalize ([] : List Loc) = locs at hw ⊢
  have K17 : ∀ (t0 : Int32) (σ : zs_S) (H : Heap) (locs : List Loc) (ls : Array Slot), zf_Tokens_isDigit_17 F t0 σ = some q → zs_I 0 D cA ad A s σ H locs → lv_has ls 1 [] → W p l e RR s m args below meth c H locs 0 0 QQ (F0 m 17 ls [.int t0]) := by
    intro  t0 σ H locs ls hf hw hl
    unfold zf_Tokens_isDigit_17 at hf
    obtain ⟨hz, hf⟩ := zq_gs hf
    exact zr_zret G hw hr hlocks hz hf hQ d_Tokens_isDigit_17
  have K16 : ∀ (σ : zs_S) (H : Heap) (locs : List Loc) (ls : Array Slot), zf_Tokens_isDigit_16 F σ = some q → zs_I 0 D cA ad A s σ H locs → lv_has ls 1 [] → W p l e RR s m args below meth c H locs 0 0 QQ (F0 m 16 ls []) := by
    intro   σ H locs ls hf hw hl
    unfold zf_Tokens_isDigit_16 at hf
    refine lv_iconst (v := 0) hx hb d_Tokens_isDigit_16 (by decide) ?_
    exact K17 0 σ H locs ls hf hw (lv_sub hl [] rfl)
  unfold zf_Tokens_isDigit at hf
  refine lv_iload_n hx hb d_Tokens_isDigit_0 rfl (lv_at hl 0 rfl) ?_
  refine lv_bipush (v := 48) hx hb d_Tokens_isDigit_1 (by decide) ?_
  refine lv_icmp_lt hx hb d_Tokens_isDigit_3 (tgt := 16) rfl (fun hc => ?_) (fun hc => ?_)
  · have hf := (if_pos hc).symm.trans hf
    exact K16 σ H locs ls hf hw (lv_sub hl [] rfl)
  · have hf := (if_neg hc).symm.trans hf
    refine lv_iload_n hx hb d_Tokens_isDigit_6 rfl (lv_at hl 0 rfl) ?_
    refine lv_bipush (v := 57) hx hb d_Tokens_isDigit_7 (by decide) ?_
    refine lv_icmp_gt hx hb d_Tokens_isDigit_9 (tgt := 16) rfl (fun hc => ?_) (fun hc => ?_)
    · have hf := (if_pos hc).symm.trans hf
      exact K16 σ H locs ls hf hw (lv_sub hl [] rfl)
    · have hf := (if_neg hc).symm.trans hf
      refine lv_iconst (v := 1) hx hb d_Tokens_isDigit_12 (by decide) ?_
      refine lv_goto hx hb d_Tokens_isDigit_13 (tgt := 17) rfl ?_
      exact K17 1 σ H locs ls hf hw (lv_sub hl [] rfl)
/-! ScheduleCheck$Parser.isLock -/
def y_Parser_isLock : MethodName := ⟨"ScheduleCheck$Parser","isLock","(I)Z"⟩
theorem d_Parser_isLock_0 : decode prog_6_method_12_code 0 = .ok (.iload_n 0, 1) := by decide +kernel
theorem d_Parser_isLock_1 : decode prog_6_method_12_code 1 = .ok (.bipush 8, 2) := by decide +kernel
theorem d_Parser_isLock_3 : decode prog_6_method_12_code 3 = .ok (.if_icmp .lt 13, 3) := by decide +kernel
theorem d_Parser_isLock_6 : decode prog_6_method_12_code 6 = .ok (.iload_n 0, 1) := by decide +kernel
theorem d_Parser_isLock_7 : decode prog_6_method_12_code 7 = .ok (.bipush 12, 2) := by decide +kernel
theorem d_Parser_isLock_9 : decode prog_6_method_12_code 9 = .ok (.if_icmp .ge 7, 3) := by decide +kernel
theorem d_Parser_isLock_12 : decode prog_6_method_12_code 12 = .ok (.iconst 1, 1) := by decide +kernel
theorem d_Parser_isLock_13 : decode prog_6_method_12_code 13 = .ok (.goto 4, 3) := by decide +kernel
theorem d_Parser_isLock_16 : decode prog_6_method_12_code 16 = .ok (.iconst 0, 1) := by decide +kernel
theorem d_Parser_isLock_17 : decode prog_6_method_12_code 17 = .ok (.ireturn, 1) := by decide +kernel
def zf_Parser_isLock_17 (F : Nat)  (t0 : Int32) (σ : zs_S) : Option (Int32 × zs_S) :=
  zq_g (zq_z t0) <|
  some (t0, σ)
def zf_Parser_isLock_16 (F : Nat)   (σ : zs_S) : Option (Int32 × zs_S) :=
  zf_Parser_isLock_17 F 0 σ
def zf_Parser_isLock (F : Nat) (x0 : Int32) (σ : zs_S) : Option (Int32 × zs_S) :=
  if x0 < 8 then (
    zf_Parser_isLock_16 F σ
  ) else (
    if 12 ≤ x0 then (
      zf_Parser_isLock_16 F σ
    ) else (
      zf_Parser_isLock_17 F 1 σ
    )
  )
set_option maxHeartbeats 4000000 in
set_option maxRecDepth 100000 in
theorem zc_Parser_isLock {l : Launch} {D : va_G} {cA : Nat → ClassId} {ad : Nat → Nat} {A : Nat → Prop} {F : Nat} {x0 : Int32} {σ : zs_S} {q : Int32 × zs_S} (hJ : zs_J ad) (hf : zf_Parser_isLock F x0 σ = some q) : Met l y_Parser_isLock (.code y_Parser_isLock prog_6_method_12_code 1 (some .boolean) :: zd_ww) { frames := 0, cells := 0, slots := 0, locals := 0 } (va_Pc [.int x0] (zs_U 0 D cA ad A σ)) (zs_Qi 0 D cA ad A q) 0 0 A := by
  refine Met.ofW (cc := prog_6_method_12_code) (maxL := 1) (ret := (some .boolean)) (by decide) rfl ?_
  intro p e s m args below meth c s₁ B hml hv
  obtain ⟨hargs, hP, hK, hD, hZ⟩ := hv
  have G : zs_G 0 p s m args c prog_6_method_12_code 1 "ScheduleCheck$Parser" D cA ad A := ⟨⟨B.exec, B.bytes, hml, findClass_of_methodNamed B.named, fun w h => atoms_spec B.pre w (List.mem_cons_of_mem _ h)⟩, hK, hJ, hZ⟩
  have hw : zs_I 0 D cA ad A s σ s.heap [] := ⟨hP, hD, va_S.rf⟩
  have hx := G.1.1
  have hb := G.1.2.1
  have hown := G.1.2.2.2.1
  have hts := G.1.2.2.2.2
  have hr := B.returns
  have hlocks := B.notSynchronized
  have he : entryFrame m args 1 = F0 m 0 ((lg_sl [.int x0] ++ List.replicate (1 - (lg_sl [.int x0]).length) Slot.unset).toArray) [] := by rw [hargs]; exact lg_entry_eq m _ 1
  have hl := lv_entry [.int x0] (n := 1) (Nat.le_of_ble_eq_true rfl)
  rw [he]
  generalize (lg_sl [.int x0] ++ List.replicate (1 - (lg_sl [.int x0]).length) Slot.unset).toArray = ls at hl
  have hl : lv_has ls 1 [(0, .int x0)] := hl
  obtain ⟨RR, hR⟩ : ∃ z, z = (headSpec (.code y_Parser_isLock prog_6_method_12_code 1 (some .boolean) :: zd_ww) { frames := 0, cells := 0, slots := 0, locals := 0 }).room := ⟨_, rfl⟩
  rw [← hR]
  obtain ⟨QQ, hQ⟩ : ∃ z, z = MQ below (zs_Qi 0 D cA ad A q) args s 0 0 A := ⟨_, rfl⟩
  rw [← hQ]
  have hR1 : 0 ≤ RR.frames := by rw [hR]; exact Nat.le_refl _
  have hR2 : 0 ≤ RR.locals := by rw [hR]; exact Nat.le_refl _
  generalize s.heap = H at hw ⊢
  generalize ([] : List Loc) = locs at hw ⊢
  have K17 : ∀ (t0 : Int32) (σ : zs_S) (H : Heap) (locs : List Loc) (ls : Array Slot), zf_Parser_isLock_17 F t0 σ = some q → zs_I 0 D cA ad A s σ H locs → lv_has ls 1 [] → W p l e RR s m args below meth c H locs 0 0 QQ (F0 m 17 ls [.int t0]) := by
    intro  t0 σ H locs ls hf hw hl
    unfold zf_Parser_isLock_17 at hf
    obtain ⟨hz, hf⟩ := zq_gs hf
    exact zr_zret G hw hr hlocks hz hf hQ d_Parser_isLock_17
  have K16 : ∀ (σ : zs_S) (H : Heap) (locs : List Loc) (ls : Array Slot), zf_Parser_isLock_16 F σ = some q → zs_I 0 D cA ad A s σ H locs → lv_has ls 1 [] → W p l e RR s m args below meth c H locs 0 0 QQ (F0 m 16 ls []) := by
    intro   σ H locs ls hf hw hl
    unfold zf_Parser_isLock_16 at hf
    refine lv_iconst (v := 0) hx hb d_Parser_isLock_16 (by decide) ?_
    exact K17 0 σ H locs ls hf hw (lv_sub hl [] rfl)
  unfold zf_Parser_isLock at hf
  refine lv_iload_n hx hb d_Parser_isLock_0 rfl (lv_at hl 0 rfl) ?_
  refine lv_bipush (v := 8) hx hb d_Parser_isLock_1 (by decide) ?_
  refine lv_icmp_lt hx hb d_Parser_isLock_3 (tgt := 16) rfl (fun hc => ?_) (fun hc => ?_)
  · have hf := (if_pos hc).symm.trans hf
    exact K16 σ H locs ls hf hw (lv_sub hl [] rfl)
  · have hf := (if_neg hc).symm.trans hf
    refine lv_iload_n hx hb d_Parser_isLock_6 rfl (lv_at hl 0 rfl) ?_
    refine lv_bipush (v := 12) hx hb d_Parser_isLock_7 (by decide) ?_
    refine lv_icmp_ge hx hb d_Parser_isLock_9 (tgt := 16) rfl (fun hc => ?_) (fun hc => ?_)
    · have hf := (if_pos hc).symm.trans hf
      exact K16 σ H locs ls hf hw (lv_sub hl [] rfl)
    · have hf := (if_neg hc).symm.trans hf
      refine lv_iconst (v := 1) hx hb d_Parser_isLock_12 (by decide) ?_
      refine lv_goto hx hb d_Parser_isLock_13 (tgt := 17) rfl ?_
      exact K17 1 σ H locs ls hf hw (lv_sub hl [] rfl)
/-! ScheduleCheck$Parser.isVariable -/
def y_Parser_isVariable : MethodName := ⟨"ScheduleCheck$Parser","isVariable","(I)Z"⟩
theorem d_Parser_isVariable_0 : decode prog_6_method_13_code 0 = .ok (.iload_n 0, 1) := by decide +kernel
theorem d_Parser_isVariable_1 : decode prog_6_method_13_code 1 = .ok (.ifCond .lt 13, 3) := by decide +kernel
theorem d_Parser_isVariable_4 : decode prog_6_method_13_code 4 = .ok (.iload_n 0, 1) := by decide +kernel
theorem d_Parser_isVariable_5 : decode prog_6_method_13_code 5 = .ok (.bipush 8, 2) := by decide +kernel
theorem d_Parser_isVariable_7 : decode prog_6_method_13_code 7 = .ok (.if_icmp .ge 7, 3) := by decide +kernel
theorem d_Parser_isVariable_10 : decode prog_6_method_13_code 10 = .ok (.iconst 1, 1) := by decide +kernel
theorem d_Parser_isVariable_11 : decode prog_6_method_13_code 11 = .ok (.goto 4, 3) := by decide +kernel
theorem d_Parser_isVariable_14 : decode prog_6_method_13_code 14 = .ok (.iconst 0, 1) := by decide +kernel
theorem d_Parser_isVariable_15 : decode prog_6_method_13_code 15 = .ok (.ireturn, 1) := by decide +kernel
def zf_Parser_isVariable_15 (F : Nat)  (t0 : Int32) (σ : zs_S) : Option (Int32 × zs_S) :=
  zq_g (zq_z t0) <|
  some (t0, σ)
def zf_Parser_isVariable_14 (F : Nat)   (σ : zs_S) : Option (Int32 × zs_S) :=
  zf_Parser_isVariable_15 F 0 σ
def zf_Parser_isVariable (F : Nat) (x0 : Int32) (σ : zs_S) : Option (Int32 × zs_S) :=
  if x0 < 0 then (
    zf_Parser_isVariable_14 F σ
  ) else (
    if 8 ≤ x0 then (
      zf_Parser_isVariable_14 F σ
    ) else (
      zf_Parser_isVariable_15 F 1 σ
    )
  )
set_option maxHeartbeats 4000000 in
set_option maxRecDepth 100000 in
theorem zc_Parser_isVariable {l : Launch} {D : va_G} {cA : Nat → ClassId} {ad : Nat → Nat} {A : Nat → Prop} {F : Nat} {x0 : Int32} {σ : zs_S} {q : Int32 × zs_S} (hJ : zs_J ad) (hf : zf_Parser_isVariable F x0 σ = some q) : Met l y_Parser_isVariable (.code y_Parser_isVariable prog_6_method_13_code 1 (some .boolean) :: zd_ww) { frames := 0, cells := 0, slots := 0, locals := 0 } (va_Pc [.int x0] (zs_U 0 D cA ad A σ)) (zs_Qi 0 D cA ad A q) 0 0 A := by
  refine Met.ofW (cc := prog_6_method_13_code) (maxL := 1) (ret := (some .boolean)) (by decide) rfl ?_
  intro p e s m args below meth c s₁ B hml hv
  obtain ⟨hargs, hP, hK, hD, hZ⟩ := hv
  have G : zs_G 0 p s m args c prog_6_method_13_code 1 "ScheduleCheck$Parser" D cA ad A := ⟨⟨B.exec, B.bytes, hml, findClass_of_methodNamed B.named, fun w h => atoms_spec B.pre w (List.mem_cons_of_mem _ h)⟩, hK, hJ, hZ⟩
  have hw : zs_I 0 D cA ad A s σ s.heap [] := ⟨hP, hD, va_S.rf⟩
  have hx := G.1.1
  have hb := G.1.2.1
  have hown := G.1.2.2.2.1
  have hts := G.1.2.2.2.2
  have hr := B.returns
  have hlocks := B.notSynchronized
  have he : entryFrame m args 1 = F0 m 0 ((lg_sl [.int x0] ++ List.replicate (1 - (lg_sl [.int x0]).length) Slot.unset).toArray) [] := by rw [hargs]; exact lg_entry_eq m _ 1
  have hl := lv_entry [.int x0] (n := 1) (Nat.le_of_ble_eq_true rfl)
  rw [he]
  generalize (lg_sl [.int x0] ++ List.replicate (1 - (lg_sl [.int x0]).length) Slot.unset).toArray = ls at hl
  have hl : lv_has ls 1 [(0, .int x0)] := hl
  obtain ⟨RR, hR⟩ : ∃ z, z = (headSpec (.code y_Parser_isVariable prog_6_method_13_code 1 (some .boolean) :: zd_ww) { frames := 0, cells := 0, slots := 0, locals := 0 }).room := ⟨_, rfl⟩
  rw [← hR]
  obtain ⟨QQ, hQ⟩ : ∃ z, z = MQ below (zs_Qi 0 D cA ad A q) args s 0 0 A := ⟨_, rfl⟩
  rw [← hQ]
  have hR1 : 0 ≤ RR.frames := by rw [hR]; exact Nat.le_refl _
  have hR2 : 0 ≤ RR.locals := by rw [hR]; exact Nat.le_refl _
  generalize s.heap = H at hw ⊢
  generalize ([] : List Loc) = locs at hw ⊢
  have K15 : ∀ (t0 : Int32) (σ : zs_S) (H : Heap) (locs : List Loc) (ls : Array Slot), zf_Parser_isVariable_15 F t0 σ = some q → zs_I 0 D cA ad A s σ H locs → lv_has ls 1 [] → W p l e RR s m args below meth c H locs 0 0 QQ (F0 m 15 ls [.int t0]) := by
    intro  t0 σ H locs ls hf hw hl
    unfold zf_Parser_isVariable_15 at hf
    obtain ⟨hz, hf⟩ := zq_gs hf
    exact zr_zret G hw hr hlocks hz hf hQ d_Parser_isVariable_15
  have K14 : ∀ (σ : zs_S) (H : Heap) (locs : List Loc) (ls : Array Slot), zf_Parser_isVariable_14 F σ = some q → zs_I 0 D cA ad A s σ H locs → lv_has ls 1 [] → W p l e RR s m args below meth c H locs 0 0 QQ (F0 m 14 ls []) := by
    intro   σ H locs ls hf hw hl
    unfold zf_Parser_isVariable_14 at hf
    refine lv_iconst (v := 0) hx hb d_Parser_isVariable_14 (by decide) ?_
    exact K15 0 σ H locs ls hf hw (lv_sub hl [] rfl)
  unfold zf_Parser_isVariable at hf
  refine lv_iload_n hx hb d_Parser_isVariable_0 rfl (lv_at hl 0 rfl) ?_
  refine lv_if_lt hx hb d_Parser_isVariable_1 (tgt := 14) rfl (fun hc => ?_) (fun hc => ?_)
  · have hf := (if_pos hc).symm.trans hf
    exact K14 σ H locs ls hf hw (lv_sub hl [] rfl)
  · have hf := (if_neg hc).symm.trans hf
    refine lv_iload_n hx hb d_Parser_isVariable_4 rfl (lv_at hl 0 rfl) ?_
    refine lv_bipush (v := 8) hx hb d_Parser_isVariable_5 (by decide) ?_
    refine lv_icmp_ge hx hb d_Parser_isVariable_7 (tgt := 14) rfl (fun hc => ?_) (fun hc => ?_)
    · have hf := (if_pos hc).symm.trans hf
      exact K14 σ H locs ls hf hw (lv_sub hl [] rfl)
    · have hf := (if_neg hc).symm.trans hf
      refine lv_iconst (v := 1) hx hb d_Parser_isVariable_10 (by decide) ?_
      refine lv_goto hx hb d_Parser_isVariable_11 (tgt := 15) rfl ?_
      exact K15 1 σ H locs ls hf hw (lv_sub hl [] rfl)
/-! ScheduleCheck$Parser.isLocal -/
def y_Parser_isLocal : MethodName := ⟨"ScheduleCheck$Parser","isLocal","(I)Z"⟩
theorem d_Parser_isLocal_0 : decode prog_6_method_14_code 0 = .ok (.iload_n 0, 1) := by decide +kernel
theorem d_Parser_isLocal_1 : decode prog_6_method_14_code 1 = .ok (.bipush 20, 2) := by decide +kernel
theorem d_Parser_isLocal_3 : decode prog_6_method_14_code 3 = .ok (.if_icmp .lt 7, 3) := by decide +kernel
theorem d_Parser_isLocal_6 : decode prog_6_method_14_code 6 = .ok (.iconst 1, 1) := by decide +kernel
theorem d_Parser_isLocal_7 : decode prog_6_method_14_code 7 = .ok (.goto 4, 3) := by decide +kernel
theorem d_Parser_isLocal_10 : decode prog_6_method_14_code 10 = .ok (.iconst 0, 1) := by decide +kernel
theorem d_Parser_isLocal_11 : decode prog_6_method_14_code 11 = .ok (.ireturn, 1) := by decide +kernel
def zf_Parser_isLocal_11 (F : Nat)  (t0 : Int32) (σ : zs_S) : Option (Int32 × zs_S) :=
  zq_g (zq_z t0) <|
  some (t0, σ)
def zf_Parser_isLocal (F : Nat) (x0 : Int32) (σ : zs_S) : Option (Int32 × zs_S) :=
  if x0 < 20 then (
    zf_Parser_isLocal_11 F 0 σ
  ) else (
    zf_Parser_isLocal_11 F 1 σ
  )
set_option maxHeartbeats 4000000 in
set_option maxRecDepth 100000 in
theorem zc_Parser_isLocal {l : Launch} {D : va_G} {cA : Nat → ClassId} {ad : Nat → Nat} {A : Nat → Prop} {F : Nat} {x0 : Int32} {σ : zs_S} {q : Int32 × zs_S} (hJ : zs_J ad) (hf : zf_Parser_isLocal F x0 σ = some q) : Met l y_Parser_isLocal (.code y_Parser_isLocal prog_6_method_14_code 1 (some .boolean) :: zd_ww) { frames := 0, cells := 0, slots := 0, locals := 0 } (va_Pc [.int x0] (zs_U 0 D cA ad A σ)) (zs_Qi 0 D cA ad A q) 0 0 A := by
  refine Met.ofW (cc := prog_6_method_14_code) (maxL := 1) (ret := (some .boolean)) (by decide) rfl ?_
  intro p e s m args below meth c s₁ B hml hv
  obtain ⟨hargs, hP, hK, hD, hZ⟩ := hv
  have G : zs_G 0 p s m args c prog_6_method_14_code 1 "ScheduleCheck$Parser" D cA ad A := ⟨⟨B.exec, B.bytes, hml, findClass_of_methodNamed B.named, fun w h => atoms_spec B.pre w (List.mem_cons_of_mem _ h)⟩, hK, hJ, hZ⟩
  have hw : zs_I 0 D cA ad A s σ s.heap [] := ⟨hP, hD, va_S.rf⟩
  have hx := G.1.1
  have hb := G.1.2.1
  have hown := G.1.2.2.2.1
  have hts := G.1.2.2.2.2
  have hr := B.returns
  have hlocks := B.notSynchronized
  have he : entryFrame m args 1 = F0 m 0 ((lg_sl [.int x0] ++ List.replicate (1 - (lg_sl [.int x0]).length) Slot.unset).toArray) [] := by rw [hargs]; exact lg_entry_eq m _ 1
  have hl := lv_entry [.int x0] (n := 1) (Nat.le_of_ble_eq_true rfl)
  rw [he]
  generalize (lg_sl [.int x0] ++ List.replicate (1 - (lg_sl [.int x0]).length) Slot.unset).toArray = ls at hl
  have hl : lv_has ls 1 [(0, .int x0)] := hl
  obtain ⟨RR, hR⟩ : ∃ z, z = (headSpec (.code y_Parser_isLocal prog_6_method_14_code 1 (some .boolean) :: zd_ww) { frames := 0, cells := 0, slots := 0, locals := 0 }).room := ⟨_, rfl⟩
  rw [← hR]
  obtain ⟨QQ, hQ⟩ : ∃ z, z = MQ below (zs_Qi 0 D cA ad A q) args s 0 0 A := ⟨_, rfl⟩
  rw [← hQ]
  have hR1 : 0 ≤ RR.frames := by rw [hR]; exact Nat.le_refl _
  have hR2 : 0 ≤ RR.locals := by rw [hR]; exact Nat.le_refl _
  generalize s.heap = H at hw ⊢
  generalize ([] : List Loc) = locs at hw ⊢
  have K11 : ∀ (t0 : Int32) (σ : zs_S) (H : Heap) (locs : List Loc) (ls : Array Slot), zf_Parser_isLocal_11 F t0 σ = some q → zs_I 0 D cA ad A s σ H locs → lv_has ls 1 [] → W p l e RR s m args below meth c H locs 0 0 QQ (F0 m 11 ls [.int t0]) := by
    intro  t0 σ H locs ls hf hw hl
    unfold zf_Parser_isLocal_11 at hf
    obtain ⟨hz, hf⟩ := zq_gs hf
    exact zr_zret G hw hr hlocks hz hf hQ d_Parser_isLocal_11
  unfold zf_Parser_isLocal at hf
  refine lv_iload_n hx hb d_Parser_isLocal_0 rfl (lv_at hl 0 rfl) ?_
  refine lv_bipush (v := 20) hx hb d_Parser_isLocal_1 (by decide) ?_
  refine lv_icmp_lt hx hb d_Parser_isLocal_3 (tgt := 10) rfl (fun hc => ?_) (fun hc => ?_)
  · have hf := (if_pos hc).symm.trans hf
    refine lv_iconst (v := 0) hx hb d_Parser_isLocal_10 (by decide) ?_
    exact K11 0 σ H locs ls hf hw (lv_sub hl [] rfl)
  · have hf := (if_neg hc).symm.trans hf
    refine lv_iconst (v := 1) hx hb d_Parser_isLocal_6 (by decide) ?_
    refine lv_goto hx hb d_Parser_isLocal_7 (tgt := 11) rfl ?_
    exact K11 1 σ H locs ls hf hw (lv_sub hl [] rfl)
/-! ScheduleCheck$Code.bit -/
def y_Code_bit : MethodName := ⟨"ScheduleCheck$Code","bit","(Z)I"⟩
theorem d_Code_bit_0 : decode prog_3_method_5_code 0 = .ok (.iload_n 0, 1) := by decide +kernel
theorem d_Code_bit_1 : decode prog_3_method_5_code 1 = .ok (.ifCond .eq 7, 3) := by decide +kernel
theorem d_Code_bit_4 : decode prog_3_method_5_code 4 = .ok (.iconst 1, 1) := by decide +kernel
theorem d_Code_bit_5 : decode prog_3_method_5_code 5 = .ok (.goto 4, 3) := by decide +kernel
theorem d_Code_bit_8 : decode prog_3_method_5_code 8 = .ok (.iconst 0, 1) := by decide +kernel
theorem d_Code_bit_9 : decode prog_3_method_5_code 9 = .ok (.ireturn, 1) := by decide +kernel
def zf_Code_bit_9 (F : Nat)  (t0 : Int32) (σ : zs_S) : Option (Int32 × zs_S) :=
  some (t0, σ)
def zf_Code_bit (F : Nat) (x0 : Int32) (σ : zs_S) : Option (Int32 × zs_S) :=
  if x0 = 0 then (
    zf_Code_bit_9 F 0 σ
  ) else (
    zf_Code_bit_9 F 1 σ
  )
set_option maxHeartbeats 4000000 in
set_option maxRecDepth 100000 in
theorem zc_Code_bit {l : Launch} {D : va_G} {cA : Nat → ClassId} {ad : Nat → Nat} {A : Nat → Prop} {F : Nat} {x0 : Int32} {σ : zs_S} {q : Int32 × zs_S} (hJ : zs_J ad) (hf : zf_Code_bit F x0 σ = some q) : Met l y_Code_bit (.code y_Code_bit prog_3_method_5_code 1 (some .int) :: zd_ww) { frames := 0, cells := 0, slots := 0, locals := 0 } (va_Pc [.int x0] (zs_U 0 D cA ad A σ)) (zs_Qi 0 D cA ad A q) 0 0 A := by
  refine Met.ofW (cc := prog_3_method_5_code) (maxL := 1) (ret := (some .int)) (by decide) rfl ?_
  intro p e s m args below meth c s₁ B hml hv
  obtain ⟨hargs, hP, hK, hD, hZ⟩ := hv
  have G : zs_G 0 p s m args c prog_3_method_5_code 1 "ScheduleCheck$Code" D cA ad A := ⟨⟨B.exec, B.bytes, hml, findClass_of_methodNamed B.named, fun w h => atoms_spec B.pre w (List.mem_cons_of_mem _ h)⟩, hK, hJ, hZ⟩
  have hw : zs_I 0 D cA ad A s σ s.heap [] := ⟨hP, hD, va_S.rf⟩
  have hx := G.1.1
  have hb := G.1.2.1
  have hown := G.1.2.2.2.1
  have hts := G.1.2.2.2.2
  have hr := B.returns
  have hlocks := B.notSynchronized
  have he : entryFrame m args 1 = F0 m 0 ((lg_sl [.int x0] ++ List.replicate (1 - (lg_sl [.int x0]).length) Slot.unset).toArray) [] := by rw [hargs]; exact lg_entry_eq m _ 1
  have hl := lv_entry [.int x0] (n := 1) (Nat.le_of_ble_eq_true rfl)
  rw [he]
  generalize (lg_sl [.int x0] ++ List.replicate (1 - (lg_sl [.int x0]).length) Slot.unset).toArray = ls at hl
  have hl : lv_has ls 1 [(0, .int x0)] := hl
  obtain ⟨RR, hR⟩ : ∃ z, z = (headSpec (.code y_Code_bit prog_3_method_5_code 1 (some .int) :: zd_ww) { frames := 0, cells := 0, slots := 0, locals := 0 }).room := ⟨_, rfl⟩
  rw [← hR]
  obtain ⟨QQ, hQ⟩ : ∃ z, z = MQ below (zs_Qi 0 D cA ad A q) args s 0 0 A := ⟨_, rfl⟩
  rw [← hQ]
  have hR1 : 0 ≤ RR.frames := by rw [hR]; exact Nat.le_refl _
  have hR2 : 0 ≤ RR.locals := by rw [hR]; exact Nat.le_refl _
  generalize s.heap = H at hw ⊢
  generalize ([] : List Loc) = locs at hw ⊢
  have K9 : ∀ (t0 : Int32) (σ : zs_S) (H : Heap) (locs : List Loc) (ls : Array Slot), zf_Code_bit_9 F t0 σ = some q → zs_I 0 D cA ad A s σ H locs → lv_has ls 1 [] → W p l e RR s m args below meth c H locs 0 0 QQ (F0 m 9 ls [.int t0]) := by
    intro  t0 σ H locs ls hf hw hl
    unfold zf_Code_bit_9 at hf
    exact zr_iret G hw hr hlocks hf hQ d_Code_bit_9
  unfold zf_Code_bit at hf
  refine lv_iload_n hx hb d_Code_bit_0 rfl (lv_at hl 0 rfl) ?_
  refine lv_if_eq hx hb d_Code_bit_1 (tgt := 8) rfl (fun hc => ?_) (fun hc => ?_)
  · have hf := (if_pos hc).symm.trans hf
    refine lv_iconst (v := 0) hx hb d_Code_bit_8 (by decide) ?_
    exact K9 0 σ H locs ls hf hw (lv_sub hl [] rfl)
  · have hf := (if_neg hc).symm.trans hf
    refine lv_iconst (v := 1) hx hb d_Code_bit_4 (by decide) ?_
    refine lv_goto hx hb d_Code_bit_5 (tgt := 9) rfl ?_
    exact K9 1 σ H locs ls hf hw (lv_sub hl [] rfl)
