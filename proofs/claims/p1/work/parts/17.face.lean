theorem zm_465 : Cond.code ⟨"ScheduleCheck","addWord","(I)V"⟩ prog_1_method_3_code 3 none ∈ zd_ww := zd_me 334 (by decide +kernel) (by decide +kernel)
theorem zm_466 : Cond.methodLink "ScheduleCheck" 60 ⟨"ScheduleCheck","addWord","(I)V"⟩ ∈ zd_ww := zd_me 331 (by decide +kernel) (by decide +kernel)
theorem zm_467 : Cond.instanceMethod ⟨"ScheduleCheck","addWord","(I)V"⟩ ∈ zd_ww := zd_me 333 (by decide +kernel) (by decide +kernel)
theorem zm_468 : Cond.selects "ScheduleCheck" ⟨"ScheduleCheck","addWord","(I)V"⟩ ⟨"ScheduleCheck","addWord","(I)V"⟩ ∈ zd_ww := zd_ms 0 (by decide +kernel) (by decide +kernel)
theorem zm_469 : Cond.fieldLink "ScheduleCheck" 80 "ScheduleCheck$States" "size" "I" ∈ zd_ww := zd_me 124 (by decide +kernel) (by decide +kernel)
theorem zm_470 : Cond.code ⟨"ScheduleCheck$Explorer","isSort","(II)Z"⟩ prog_4_method_14_code 4 (Option.some FieldType.boolean) ∈ zd_ww := zd_me 721 (by decide +kernel) (by decide +kernel)
theorem zm_471 : Cond.methodLink "ScheduleCheck" 101 ⟨"ScheduleCheck$Explorer","isSort","(II)Z"⟩ ∈ zd_ww := zd_me 718 (by decide +kernel) (by decide +kernel)
theorem zm_472 : Cond.instanceMethod ⟨"ScheduleCheck$Explorer","isSort","(II)Z"⟩ ∈ zd_ww := zd_me 719 (by decide +kernel) (by decide +kernel)
theorem zm_473 : Cond.selects "ScheduleCheck$Explorer" ⟨"ScheduleCheck$Explorer","isSort","(II)Z"⟩ ⟨"ScheduleCheck$Explorer","isSort","(II)Z"⟩ ∈ zd_ww := zd_me 720 (by decide +kernel) (by decide +kernel)
theorem zm_474 : Cond.code ⟨"ScheduleCheck$States","pairs","()I"⟩ prog_9_method_14_code 4 (Option.some FieldType.int) ∈ zd_ww := zd_me 709 (by decide +kernel) (by decide +kernel)
theorem zm_475 : Cond.methodLink "ScheduleCheck" 83 ⟨"ScheduleCheck$States","pairs","()I"⟩ ∈ zd_ww := zd_me 706 (by decide +kernel) (by decide +kernel)
theorem zm_476 : Cond.instanceMethod ⟨"ScheduleCheck$States","pairs","()I"⟩ ∈ zd_ww := zd_me 707 (by decide +kernel) (by decide +kernel)
theorem zm_477 : Cond.selects "ScheduleCheck$States" ⟨"ScheduleCheck$States","pairs","()I"⟩ ⟨"ScheduleCheck$States","pairs","()I"⟩ ∈ zd_ww := zd_me 708 (by decide +kernel) (by decide +kernel)
theorem zm_478 : Cond.code ⟨"ScheduleCheck","countSort","(I)I"⟩ prog_1_method_7_code 4 (Option.some FieldType.int) ∈ zd_ww := zd_me 717 (by decide +kernel) (by decide +kernel)
theorem zm_479 : Cond.methodLink "ScheduleCheck" 87 ⟨"ScheduleCheck","countSort","(I)I"⟩ ∈ zd_ww := zd_me 714 (by decide +kernel) (by decide +kernel)
theorem zm_480 : Cond.instanceMethod ⟨"ScheduleCheck","countSort","(I)I"⟩ ∈ zd_ww := zd_me 716 (by decide +kernel) (by decide +kernel)
theorem zm_481 : Cond.selects "ScheduleCheck" ⟨"ScheduleCheck","countSort","(I)I"⟩ ⟨"ScheduleCheck","countSort","(I)I"⟩ ∈ zd_ww := zd_ms 45 (by decide +kernel) (by decide +kernel)
theorem zm_482 : Cond.fieldLink "ScheduleCheck" 91 "ScheduleCheck$Program" "threads" "I" ∈ zd_ww := zd_me 247 (by decide +kernel) (by decide +kernel)
theorem zm_483 : Cond.fieldLink "ScheduleCheck" 94 "ScheduleCheck$Program" "variables" "I" ∈ zd_ww := zd_me 240 (by decide +kernel) (by decide +kernel)
theorem zm_484 : Cond.fieldLink "ScheduleCheck" 97 "ScheduleCheck$Program" "locks" "I" ∈ zd_ww := zd_me 243 (by decide +kernel) (by decide +kernel)
theorem zm_485 : Cond.fieldLink "ScheduleCheck" 100 "ScheduleCheck$Program" "size" "I" ∈ zd_ww := zd_me 250 (by decide +kernel) (by decide +kernel)
theorem zm_486 : Cond.code ⟨"ScheduleCheck$States","has","(I)Z"⟩ prog_9_method_3_code 2 (Option.some FieldType.boolean) ∈ zd_ww := zd_me 741 (by decide +kernel) (by decide +kernel)
theorem zm_487 : Cond.methodLink "ScheduleCheck" 105 ⟨"ScheduleCheck$States","has","(I)Z"⟩ ∈ zd_ww := zd_me 738 (by decide +kernel) (by decide +kernel)
theorem zm_488 : Cond.instanceMethod ⟨"ScheduleCheck$States","has","(I)Z"⟩ ∈ zd_ww := zd_me 739 (by decide +kernel) (by decide +kernel)
theorem zm_489 : Cond.selects "ScheduleCheck$States" ⟨"ScheduleCheck$States","has","(I)Z"⟩ ⟨"ScheduleCheck$States","has","(I)Z"⟩ ∈ zd_ww := zd_me 740 (by decide +kernel) (by decide +kernel)
theorem zm_490 : Cond.fieldLink "ScheduleCheck" 109 "ScheduleCheck$States" "depths" "[I" ∈ zd_ww := zd_me 110 (by decide +kernel) (by decide +kernel)
theorem zm_491 : Cond.fieldLink "ScheduleCheck" 113 "ScheduleCheck$States" "movers" "[I" ∈ zd_ww := zd_me 114 (by decide +kernel) (by decide +kernel)
theorem zm_492 : Cond.fieldLink "ScheduleCheck" 116 "ScheduleCheck$States" "parents" "[I" ∈ zd_ww := zd_me 112 (by decide +kernel) (by decide +kernel)
theorem zm_493 : Cond.methodLink "ScheduleCheck" 119 ⟨"ScheduleCheck$States","cell","(II)I"⟩ ∈ zd_ww := zd_me 742 (by decide +kernel) (by decide +kernel)
theorem zm_494 : Cond.code ⟨"ScheduleCheck$Program","hasVariable","(I)Z"⟩ prog_7_method_3_code 2 (Option.some FieldType.boolean) ∈ zd_ww := zd_me 750 (by decide +kernel) (by decide +kernel)
theorem zm_495 : Cond.methodLink "ScheduleCheck" 123 ⟨"ScheduleCheck$Program","hasVariable","(I)Z"⟩ ∈ zd_ww := zd_me 747 (by decide +kernel) (by decide +kernel)
theorem zm_496 : Cond.instanceMethod ⟨"ScheduleCheck$Program","hasVariable","(I)Z"⟩ ∈ zd_ww := zd_me 748 (by decide +kernel) (by decide +kernel)
theorem zm_497 : Cond.selects "ScheduleCheck$Program" ⟨"ScheduleCheck$Program","hasVariable","(I)Z"⟩ ⟨"ScheduleCheck$Program","hasVariable","(I)Z"⟩ ∈ zd_ww := zd_me 749 (by decide +kernel) (by decide +kernel)
theorem zm_498 : Cond.code ⟨"ScheduleCheck$Program","hasThread","(I)Z"⟩ prog_7_method_4_code 2 (Option.some FieldType.boolean) ∈ zd_ww := zd_me 758 (by decide +kernel) (by decide +kernel)
theorem zm_499 : Cond.methodLink "ScheduleCheck" 126 ⟨"ScheduleCheck$Program","hasThread","(I)Z"⟩ ∈ zd_ww := zd_me 755 (by decide +kernel) (by decide +kernel)
theorem zm_500 : Cond.instanceMethod ⟨"ScheduleCheck$Program","hasThread","(I)Z"⟩ ∈ zd_ww := zd_me 756 (by decide +kernel) (by decide +kernel)
theorem zm_501 : Cond.selects "ScheduleCheck$Program" ⟨"ScheduleCheck$Program","hasThread","(I)Z"⟩ ⟨"ScheduleCheck$Program","hasThread","(I)Z"⟩ ∈ zd_ww := zd_me 757 (by decide +kernel) (by decide +kernel)
theorem zm_502 : Cond.fieldLink "ScheduleCheck" 129 "ScheduleCheck$Program" "locals" "[I" ∈ zd_ww := zd_me 256 (by decide +kernel) (by decide +kernel)
theorem zm_503 : Cond.methodLink "ScheduleCheck" 132 ⟨"ScheduleCheck","localCell","(II)I"⟩ ∈ zd_ww := zd_me 759 (by decide +kernel) (by decide +kernel)
theorem zm_504 : Cond.methodLink "ScheduleCheck" 135 ⟨"ScheduleCheck$States","stepsOf","(I)I"⟩ ∈ zd_ww := zd_me 776 (by decide +kernel) (by decide +kernel)
theorem zm_505 : Cond.fieldLink "ScheduleCheck" 138 "ScheduleCheck$States" "steps" "[I" ∈ zd_ww := zd_me 116 (by decide +kernel) (by decide +kernel)
theorem zm_506 : Cond.fieldLink "ScheduleCheck" 141 "ScheduleCheck$States" "stepsFrom" "[I" ∈ zd_ww := zd_me 118 (by decide +kernel) (by decide +kernel)
theorem zm_507 : Cond.fieldLink "ScheduleCheck" 53 "ScheduleCheck" "endValues" "[B" ∈ zd_ww := zd_me 307 (by decide +kernel) (by decide +kernel)
theorem zm_508 : Cond.code ⟨"java/util/Arrays","fill","([BB)V"⟩ prog_22_method_109_code 4 none ∈ zd_ww := zd_me 787 (by decide +kernel) (by decide +kernel)
theorem zm_509 : Cond.methodLink "ScheduleCheck" 147 ⟨"java/util/Arrays","fill","([BB)V"⟩ ∈ zd_ww := zd_me 785 (by decide +kernel) (by decide +kernel)
theorem zm_510 : Cond.static ⟨"java/util/Arrays","fill","([BB)V"⟩ ∈ zd_ww := zd_me 786 (by decide +kernel) (by decide +kernel)
theorem zm_511 : Cond.code ⟨"ScheduleCheck","markEndValues","(I)V"⟩ prog_1_method_17_code 3 none ∈ zd_ww := zd_me 784 (by decide +kernel) (by decide +kernel)
theorem zm_512 : Cond.methodLink "ScheduleCheck" 144 ⟨"ScheduleCheck","markEndValues","(I)V"⟩ ∈ zd_ww := zd_me 781 (by decide +kernel) (by decide +kernel)
theorem zm_513 : Cond.instanceMethod ⟨"ScheduleCheck","markEndValues","(I)V"⟩ ∈ zd_ww := zd_me 783 (by decide +kernel) (by decide +kernel)
theorem zm_514 : Cond.selects "ScheduleCheck" ⟨"ScheduleCheck","markEndValues","(I)V"⟩ ⟨"ScheduleCheck","markEndValues","(I)V"⟩ ∈ zd_ww := zd_ms 47 (by decide +kernel) (by decide +kernel)
theorem zm_515 : Cond.code ⟨"ScheduleCheck$Explorer","isRace","(II)Z"⟩ prog_4_method_16_code 8 (Option.some FieldType.boolean) ∈ zd_ww := zd_me 795 (by decide +kernel) (by decide +kernel)
theorem zm_516 : Cond.methodLink "ScheduleCheck" 153 ⟨"ScheduleCheck$Explorer","isRace","(II)Z"⟩ ∈ zd_ww := zd_me 792 (by decide +kernel) (by decide +kernel)
theorem zm_517 : Cond.instanceMethod ⟨"ScheduleCheck$Explorer","isRace","(II)Z"⟩ ∈ zd_ww := zd_me 793 (by decide +kernel) (by decide +kernel)
theorem zm_518 : Cond.selects "ScheduleCheck$Explorer" ⟨"ScheduleCheck$Explorer","isRace","(II)Z"⟩ ⟨"ScheduleCheck$Explorer","isRace","(II)Z"⟩ ∈ zd_ww := zd_me 794 (by decide +kernel) (by decide +kernel)
/-! ScheduleCheck.addWord -/
def y_S_addWord : MethodName := ⟨"ScheduleCheck","addWord","(I)V"⟩
theorem d_S_addWord_0 : decode prog_1_method_3_code 0 = .ok (.bipush 24, 2) := by decide +kernel
theorem d_S_addWord_2 : decode prog_1_method_3_code 2 = .ok (.istore_n 2, 1) := by decide +kernel
theorem d_S_addWord_3 : decode prog_1_method_3_code 3 = .ok (.iload_n 2, 1) := by decide +kernel
theorem d_S_addWord_4 : decode prog_1_method_3_code 4 = .ok (.ifCond .lt 32, 3) := by decide +kernel
theorem d_S_addWord_7 : decode prog_1_method_3_code 7 = .ok (.aload_n 0, 1) := by decide +kernel
theorem d_S_addWord_8 : decode prog_1_method_3_code 8 = .ok (.getfield 9, 3) := by decide +kernel
theorem d_S_addWord_11 : decode prog_1_method_3_code 11 = .ok (.aload_n 0, 1) := by decide +kernel
theorem d_S_addWord_12 : decode prog_1_method_3_code 12 = .ok (.getfield 56, 3) := by decide +kernel
theorem d_S_addWord_15 : decode prog_1_method_3_code 15 = .ok (.iload_n 1, 1) := by decide +kernel
theorem d_S_addWord_16 : decode prog_1_method_3_code 16 = .ok (.iload_n 2, 1) := by decide +kernel
theorem d_S_addWord_17 : decode prog_1_method_3_code 17 = .ok (.ishr, 1) := by decide +kernel
theorem d_S_addWord_18 : decode prog_1_method_3_code 18 = .ok (.i2b, 1) := by decide +kernel
theorem d_S_addWord_19 : decode prog_1_method_3_code 19 = .ok (.bastore, 1) := by decide +kernel
theorem d_S_addWord_20 : decode prog_1_method_3_code 20 = .ok (.aload_n 0, 1) := by decide +kernel
theorem d_S_addWord_21 : decode prog_1_method_3_code 21 = .ok (.dup, 1) := by decide +kernel
theorem d_S_addWord_22 : decode prog_1_method_3_code 22 = .ok (.getfield 56, 3) := by decide +kernel
theorem d_S_addWord_25 : decode prog_1_method_3_code 25 = .ok (.iconst 1, 1) := by decide +kernel
theorem d_S_addWord_26 : decode prog_1_method_3_code 26 = .ok (.iadd, 1) := by decide +kernel
theorem d_S_addWord_27 : decode prog_1_method_3_code 27 = .ok (.putfield 56, 3) := by decide +kernel
theorem d_S_addWord_30 : decode prog_1_method_3_code 30 = .ok (.iinc 2 (-8), 3) := by decide +kernel
theorem d_S_addWord_33 : decode prog_1_method_3_code 33 = .ok (.goto (-30), 3) := by decide +kernel
theorem d_S_addWord_36 : decode prog_1_method_3_code 36 = .ok (.return_, 1) := by decide +kernel
def zf_S_addWord_3 (F : Nat)  : Nat → Int32 → Int32 → zs_S → Option (zs_S)
  | 0, _, _, _ => none
  | n + 1, x1, x2, σ =>
    if x2 < 0 then (
      some σ
    ) else (
      zq_g (zq_b (zs_i σ 1 1) 1600) <|
      zq_v (zs_wi σ 2 ((zs_i σ 1 1).toNatClampNeg) (vp_nar .byte (((x1 >>> (x2 &&& 31) : Int32)).toInt8.toInt32))) fun σ2 =>
      zq_v (zs_wi σ2 1 1 ((zs_i σ2 1 1) + 1)) fun σ3 =>
      zq_v (x2 + (-8)) fun v4 =>
      (zf_S_addWord_3 F n) x1 v4 σ3
    )
def zf_S_addWord (F : Nat) (x1 : Int32) (σ : zs_S) : Option (zs_S) :=
  zf_S_addWord_3 F F x1 24 σ
set_option maxHeartbeats 4000000 in
set_option maxRecDepth 100000 in
theorem zc_S_addWord {l : Launch} {D : va_G} {cA : Nat → ClassId} {ad : Nat → Nat} {A : Nat → Prop} {F : Nat} {x1 : Int32} {σ : zs_S} {q : zs_S} (hJ : zs_J ad) (hf : zf_S_addWord F x1 σ = some q) : Met l y_S_addWord (.code y_S_addWord prog_1_method_3_code 3 none :: zd_ww) { frames := 0, cells := 0, slots := 0, locals := 0 } (va_Pc [.ref (ad 1), .int x1] (zs_U 0 D cA ad A σ)) (zs_Qv 0 D cA ad A q) 0 0 A := by
  refine Met.ofW (cc := prog_1_method_3_code) (maxL := 3) (ret := none) (by decide) rfl ?_
  intro p e s m args below meth c s₁ B hml hv
  obtain ⟨hargs, hP, hK, hD, hZ⟩ := hv
  have G : zs_G 0 p s m args c prog_1_method_3_code 3 "ScheduleCheck" D cA ad A := ⟨⟨B.exec, B.bytes, hml, findClass_of_methodNamed B.named, fun w h => atoms_spec B.pre w (List.mem_cons_of_mem _ h)⟩, hK, hJ, hZ⟩
  have hw : zs_I 0 D cA ad A s σ s.heap [] := ⟨hP, hD, va_S.rf⟩
  have hx := G.1.1
  have hb := G.1.2.1
  have hown := G.1.2.2.2.1
  have hts := G.1.2.2.2.2
  have hr := B.returns
  have hlocks := B.notSynchronized
  have he : entryFrame m args 3 = F0 m 0 ((lg_sl [.ref (ad 1), .int x1] ++ List.replicate (3 - (lg_sl [.ref (ad 1), .int x1]).length) Slot.unset).toArray) [] := by rw [hargs]; exact lg_entry_eq m _ 3
  have hl := lv_entry [.ref (ad 1), .int x1] (n := 3) (Nat.le_of_ble_eq_true rfl)
  rw [he]
  generalize (lg_sl [.ref (ad 1), .int x1] ++ List.replicate (3 - (lg_sl [.ref (ad 1), .int x1]).length) Slot.unset).toArray = ls at hl
  have hl : lv_has ls 3 [(0, .ref (ad 1)), (1, .int x1)] := hl
  obtain ⟨RR, hR⟩ : ∃ z, z = (headSpec (.code y_S_addWord prog_1_method_3_code 3 none :: zd_ww) { frames := 0, cells := 0, slots := 0, locals := 0 }).room := ⟨_, rfl⟩
  rw [← hR]
  obtain ⟨QQ, hQ⟩ : ∃ z, z = MQ below (zs_Qv 0 D cA ad A q) args s 0 0 A := ⟨_, rfl⟩
  rw [← hQ]
  have hR1 : 0 ≤ RR.frames := by rw [hR]; exact Nat.le_refl _
  have hR2 : 0 ≤ RR.locals := by rw [hR]; exact Nat.le_refl _
  generalize s.heap = H at hw ⊢
  generalize ([] : List Loc) = locs at hw ⊢
  have K3 : ∀ (n : Nat) (x1 : Int32) (x2 : Int32) (σ : zs_S) (H : Heap) (locs : List Loc) (ls : Array Slot), zf_S_addWord_3 F n x1 x2 σ = some q → zs_I 0 D cA ad A s σ H locs → lv_has ls 3 [(0, .ref (ad 1)), (1, .int x1), (2, .int x2)] → W p l e RR s m args below meth c H locs 0 0 QQ (F0 m 3 ls []) := by
    intro  n
    induction n with
    | zero => intro x1 x2 σ H locs ls hf hw hl; exact nomatch (show (none : Option (zs_S)) = some q from hf)
    | succ n ih =>
      intro x1 x2 σ H locs ls hf hw hl
      rw [zf_S_addWord_3] at hf
      refine lv_iload_n hx hb d_S_addWord_3 rfl (lv_at hl 2 rfl) ?_
      refine lv_if_lt hx hb d_S_addWord_4 (tgt := 36) rfl (fun hc => ?_) (fun hc => ?_)
      · have hf := (if_pos hc).symm.trans hf
        exact zr_vret G hw hr hlocks hf hQ d_S_addWord_36
      · have hf := (if_neg hc).symm.trans hf
        refine lv_aload_n hx hb d_S_addWord_7 rfl (lv_at hl 0 rfl) ?_
        refine zr_get (ci := 0) G hw 1 0 zi_0 rfl rfl rfl (by decide) zm_444 (fun _ h => h) (v := .ref (ad 2)) rfl d_S_addWord_8 ?_
        refine lv_aload_n hx hb d_S_addWord_11 rfl (lv_at hl 0 rfl) ?_
        refine zr_get (ci := 0) G hw 1 1 zi_0 rfl rfl rfl (by decide) zm_445 (fun _ h => h) (v := .int (zs_i σ 1 1)) rfl d_S_addWord_12 ?_
        refine lv_iload_n hx hb d_S_addWord_15 rfl (lv_at hl 1 rfl) ?_
        refine lv_iload_n hx hb d_S_addWord_16 rfl (lv_at hl 2 rfl) ?_
        refine lv_ishr hx hb d_S_addWord_17 ?_
        refine lv_i2b hx hb d_S_addWord_18 rfl ?_
        obtain ⟨hi1, hf⟩ := zq_gs hf
        obtain ⟨σ2, e_σ2, hf⟩ := zq_ss hf
        refine zr_bast G hw 2 rfl rfl  hi1  d_S_addWord_19 (fun H locs hw => ?_)
        rw [← e_σ2] at hw
        refine lv_aload_n hx hb d_S_addWord_20 rfl (lv_at hl 0 rfl) ?_
        refine lv_dup hx hb d_S_addWord_21 rfl ?_
        refine zr_get (ci := 0) G hw 1 1 zi_0 rfl rfl rfl (by decide) zm_445 (fun _ h => h) (v := .int (zs_i σ2 1 1)) rfl d_S_addWord_22 ?_
        refine lv_iconst (v := 1) hx hb d_S_addWord_25 (by decide) ?_
        refine lv_iadd hx hb d_S_addWord_26 ?_
        obtain ⟨σ3, e_σ3, hf⟩ := zq_ss hf
        refine zr_puti (ci := 0) G hw 1 1 zi_0 t_zd0 t_zd0_ok n_zd0 rfl rfl rfl (by decide) rfl zm_445 (fun _ h => h) rfl (x := ((zs_i σ2 1 1) + 1)) (t_zd0_ok 1 (by decide)) rfl rfl d_S_addWord_27 (fun H locs hw => ?_)
        rw [← e_σ3] at hw
        obtain ⟨v4, e_v4, hf⟩ := zq_ss hf
        refine lv_iinc (v := v4) hx hb d_S_addWord_30 hl (k := 2) rfl (zq_inc (k := (-8)) (by decide) e_v4) (by decide) rfl (fun ls hl => ?_)
        have hl : lv_has ls 3 [(2, .int v4), (0, .ref (ad 1)), (1, .int x1)] := hl
        refine lv_goto hx hb d_S_addWord_33 (tgt := 3) rfl ?_
        exact ih x1 v4 σ3 H locs ls hf hw (lv_sub hl [1, 2, 0] rfl)
  unfold zf_S_addWord at hf
  refine lv_bipush (v := 24) hx hb d_S_addWord_0 (by decide) ?_
  refine lv_istore_n hx hb d_S_addWord_2 rfl hl (by decide) rfl (fun ls hl => ?_)
  have hl : lv_has ls 3 [(2, .int 24), (0, .ref (ad 1)), (1, .int x1)] := hl
  exact K3 F x1 24 σ H locs ls hf hw (lv_sub hl [1, 2, 0] rfl)
/-! ScheduleCheck.feed -/
def y_S_feed : MethodName := ⟨"ScheduleCheck","feed","(IIIII)I"⟩
theorem d_S_feed_0 : decode prog_1_method_2_code 0 = .ok (.aload_n 0, 1) := by decide +kernel
theorem d_S_feed_1 : decode prog_1_method_2_code 1 = .ok (.getfield 56, 3) := by decide +kernel
theorem d_S_feed_4 : decode prog_1_method_2_code 4 = .ok (.bipush 20, 2) := by decide +kernel
theorem d_S_feed_6 : decode prog_1_method_2_code 6 = .ok (.iadd, 1) := by decide +kernel
theorem d_S_feed_7 : decode prog_1_method_2_code 7 = .ok (.sipush 1600, 3) := by decide +kernel
theorem d_S_feed_10 : decode prog_1_method_2_code 10 = .ok (.if_icmp .le 6, 3) := by decide +kernel
theorem d_S_feed_13 : decode prog_1_method_2_code 13 = .ok (.bipush (-3), 2) := by decide +kernel
theorem d_S_feed_15 : decode prog_1_method_2_code 15 = .ok (.ireturn, 1) := by decide +kernel
theorem d_S_feed_16 : decode prog_1_method_2_code 16 = .ok (.aload_n 0, 1) := by decide +kernel
theorem d_S_feed_17 : decode prog_1_method_2_code 17 = .ok (.iload_n 1, 1) := by decide +kernel
theorem d_S_feed_18 : decode prog_1_method_2_code 18 = .ok (.invokevirtual 60, 3) := by decide +kernel
theorem d_S_feed_21 : decode prog_1_method_2_code 21 = .ok (.aload_n 0, 1) := by decide +kernel
theorem d_S_feed_22 : decode prog_1_method_2_code 22 = .ok (.iload_n 2, 1) := by decide +kernel
theorem d_S_feed_23 : decode prog_1_method_2_code 23 = .ok (.invokevirtual 60, 3) := by decide +kernel
theorem d_S_feed_26 : decode prog_1_method_2_code 26 = .ok (.aload_n 0, 1) := by decide +kernel
theorem d_S_feed_27 : decode prog_1_method_2_code 27 = .ok (.iload_n 3, 1) := by decide +kernel
theorem d_S_feed_28 : decode prog_1_method_2_code 28 = .ok (.invokevirtual 60, 3) := by decide +kernel
theorem d_S_feed_31 : decode prog_1_method_2_code 31 = .ok (.aload_n 0, 1) := by decide +kernel
theorem d_S_feed_32 : decode prog_1_method_2_code 32 = .ok (.iload 4, 2) := by decide +kernel
theorem d_S_feed_34 : decode prog_1_method_2_code 34 = .ok (.invokevirtual 60, 3) := by decide +kernel
theorem d_S_feed_37 : decode prog_1_method_2_code 37 = .ok (.aload_n 0, 1) := by decide +kernel
theorem d_S_feed_38 : decode prog_1_method_2_code 38 = .ok (.iload 5, 2) := by decide +kernel
theorem d_S_feed_40 : decode prog_1_method_2_code 40 = .ok (.invokevirtual 60, 3) := by decide +kernel
theorem d_S_feed_43 : decode prog_1_method_2_code 43 = .ok (.aload_n 0, 1) := by decide +kernel
theorem d_S_feed_44 : decode prog_1_method_2_code 44 = .ok (.getfield 56, 3) := by decide +kernel
theorem d_S_feed_47 : decode prog_1_method_2_code 47 = .ok (.ireturn, 1) := by decide +kernel
def zf_S_feed (F : Nat) (x1 : Int32) (x2 : Int32) (x3 : Int32) (x4 : Int32) (x5 : Int32) (σ : zs_S) : Option (Int32 × zs_S) :=
  if ((zs_i σ 1 1) + 20) ≤ 1600 then (
    zq_d (zf_S_addWord F x1 σ) fun σ1 =>
    zq_d (zf_S_addWord F x2 σ1) fun σ4 =>
    zq_d (zf_S_addWord F x3 σ4) fun σ7 =>
    zq_d (zf_S_addWord F x4 σ7) fun σ10 =>
    zq_d (zf_S_addWord F x5 σ10) fun σ13 =>
    some (zs_i σ13 1 1, σ13)
  ) else (
    some ((-3), σ)
  )
set_option maxHeartbeats 4000000 in
set_option maxRecDepth 100000 in
theorem zc_S_feed {l : Launch} {D : va_G} {cA : Nat → ClassId} {ad : Nat → Nat} {A : Nat → Prop} {F : Nat} {x1 : Int32} {x2 : Int32} {x3 : Int32} {x4 : Int32} {x5 : Int32} {σ : zs_S} {q : Int32 × zs_S} (hJ : zs_J ad) (hf : zf_S_feed F x1 x2 x3 x4 x5 σ = some q) : Met l y_S_feed (.code y_S_feed prog_1_method_2_code 6 (some .int) :: zd_ww) { frames := 1, cells := 0, slots := 0, locals := 22 } (va_Pc [.ref (ad 1), .int x1, .int x2, .int x3, .int x4, .int x5] (zs_U 0 D cA ad A σ)) (zs_Qi 0 D cA ad A q) 0 0 A := by
  refine Met.ofW (cc := prog_1_method_2_code) (maxL := 6) (ret := (some .int)) (by decide) rfl ?_
  intro p e s m args below meth c s₁ B hml hv
  obtain ⟨hargs, hP, hK, hD, hZ⟩ := hv
  have G : zs_G 0 p s m args c prog_1_method_2_code 6 "ScheduleCheck" D cA ad A := ⟨⟨B.exec, B.bytes, hml, findClass_of_methodNamed B.named, fun w h => atoms_spec B.pre w (List.mem_cons_of_mem _ h)⟩, hK, hJ, hZ⟩
  have hw : zs_I 0 D cA ad A s σ s.heap [] := ⟨hP, hD, va_S.rf⟩
  have hx := G.1.1
  have hb := G.1.2.1
  have hown := G.1.2.2.2.1
  have hts := G.1.2.2.2.2
  have hr := B.returns
  have hlocks := B.notSynchronized
  have he : entryFrame m args 6 = F0 m 0 ((lg_sl [.ref (ad 1), .int x1, .int x2, .int x3, .int x4, .int x5] ++ List.replicate (6 - (lg_sl [.ref (ad 1), .int x1, .int x2, .int x3, .int x4, .int x5]).length) Slot.unset).toArray) [] := by rw [hargs]; exact lg_entry_eq m _ 6
  have hl := lv_entry [.ref (ad 1), .int x1, .int x2, .int x3, .int x4, .int x5] (n := 6) (Nat.le_of_ble_eq_true rfl)
  rw [he]
  generalize (lg_sl [.ref (ad 1), .int x1, .int x2, .int x3, .int x4, .int x5] ++ List.replicate (6 - (lg_sl [.ref (ad 1), .int x1, .int x2, .int x3, .int x4, .int x5]).length) Slot.unset).toArray = ls at hl
  have hl : lv_has ls 6 [(0, .ref (ad 1)), (1, .int x1), (2, .int x2), (3, .int x3), (4, .int x4), (5, .int x5)] := hl
  obtain ⟨RR, hR⟩ : ∃ z, z = (headSpec (.code y_S_feed prog_1_method_2_code 6 (some .int) :: zd_ww) { frames := 1, cells := 0, slots := 0, locals := 22 }).room := ⟨_, rfl⟩
  rw [← hR]
  obtain ⟨QQ, hQ⟩ : ∃ z, z = MQ below (zs_Qi 0 D cA ad A q) args s 0 0 A := ⟨_, rfl⟩
  rw [← hQ]
  have hR1 : 1 ≤ RR.frames := by rw [hR]; exact Nat.le_refl _
  have hR2 : 22 ≤ RR.locals := by rw [hR]; exact Nat.le_refl _
  generalize s.heap = H at hw ⊢
  generalize ([] : List Loc) = locs at hw ⊢
  unfold zf_S_feed at hf
  refine lv_aload_n hx hb d_S_feed_0 rfl (lv_at hl 0 rfl) ?_
  refine zr_get (ci := 0) G hw 1 1 zi_0 rfl rfl rfl (by decide) zm_445 (fun _ h => h) (v := .int (zs_i σ 1 1)) rfl d_S_feed_1 ?_
  refine lv_bipush (v := 20) hx hb d_S_feed_4 (by decide) ?_
  refine lv_iadd hx hb d_S_feed_6 ?_
  refine lv_sipush (v := 1600) hx hb d_S_feed_7 (by decide) ?_
  refine lv_icmp_le hx hb d_S_feed_10 (tgt := 16) rfl (fun hc => ?_) (fun hc => ?_)
  · have hf := (if_pos hc).symm.trans hf
    refine lv_aload_n hx hb d_S_feed_16 rfl (lv_at hl 0 rfl) ?_
    refine lv_iload_n hx hb d_S_feed_17 rfl (lv_at hl 1 rfl) ?_
    obtain ⟨σ1, hc3, hf⟩ := zq_ds hf
    refine zr_cv hw (zr_runV (rest := []) (ci := 0) (o := 1) G hw [.int x1] (zc_S_addWord hJ hc3) (cwV 1 hts (zs_gV zm_466 zm_467 zm_468 zm_316 zm_465) rfl rfl rfl (by decide +kernel) ⟨Nat.le_trans (by decide) hR1, Nat.le_trans (by decide) hR2⟩) rfl rfl rfl hl.1 (Nat.le_of_ble_eq_true rfl) d_S_feed_18 ⟨Nat.zero_le _, Nat.zero_le _⟩) (fun H locs hw => ?_)
    refine lv_aload_n hx hb d_S_feed_21 rfl (lv_at hl 0 rfl) ?_
    refine lv_iload_n hx hb d_S_feed_22 rfl (lv_at hl 2 rfl) ?_
    obtain ⟨σ4, hc6, hf⟩ := zq_ds hf
    refine zr_cv hw (zr_runV (rest := []) (ci := 0) (o := 1) G hw [.int x2] (zc_S_addWord hJ hc6) (cwV 1 hts (zs_gV zm_466 zm_467 zm_468 zm_316 zm_465) rfl rfl rfl (by decide +kernel) ⟨Nat.le_trans (by decide) hR1, Nat.le_trans (by decide) hR2⟩) rfl rfl rfl hl.1 (Nat.le_of_ble_eq_true rfl) d_S_feed_23 ⟨Nat.zero_le _, Nat.zero_le _⟩) (fun H locs hw => ?_)
    refine lv_aload_n hx hb d_S_feed_26 rfl (lv_at hl 0 rfl) ?_
    refine lv_iload_n hx hb d_S_feed_27 rfl (lv_at hl 3 rfl) ?_
    obtain ⟨σ7, hc9, hf⟩ := zq_ds hf
    refine zr_cv hw (zr_runV (rest := []) (ci := 0) (o := 1) G hw [.int x3] (zc_S_addWord hJ hc9) (cwV 1 hts (zs_gV zm_466 zm_467 zm_468 zm_316 zm_465) rfl rfl rfl (by decide +kernel) ⟨Nat.le_trans (by decide) hR1, Nat.le_trans (by decide) hR2⟩) rfl rfl rfl hl.1 (Nat.le_of_ble_eq_true rfl) d_S_feed_28 ⟨Nat.zero_le _, Nat.zero_le _⟩) (fun H locs hw => ?_)
    refine lv_aload_n hx hb d_S_feed_31 rfl (lv_at hl 0 rfl) ?_
    refine lv_iload hx hb d_S_feed_32 (lv_at hl 4 rfl) ?_
    obtain ⟨σ10, hc12, hf⟩ := zq_ds hf
    refine zr_cv hw (zr_runV (rest := []) (ci := 0) (o := 1) G hw [.int x4] (zc_S_addWord hJ hc12) (cwV 1 hts (zs_gV zm_466 zm_467 zm_468 zm_316 zm_465) rfl rfl rfl (by decide +kernel) ⟨Nat.le_trans (by decide) hR1, Nat.le_trans (by decide) hR2⟩) rfl rfl rfl hl.1 (Nat.le_of_ble_eq_true rfl) d_S_feed_34 ⟨Nat.zero_le _, Nat.zero_le _⟩) (fun H locs hw => ?_)
    refine lv_aload_n hx hb d_S_feed_37 rfl (lv_at hl 0 rfl) ?_
    refine lv_iload hx hb d_S_feed_38 (lv_at hl 5 rfl) ?_
    obtain ⟨σ13, hc15, hf⟩ := zq_ds hf
    refine zr_cv hw (zr_runV (rest := []) (ci := 0) (o := 1) G hw [.int x5] (zc_S_addWord hJ hc15) (cwV 1 hts (zs_gV zm_466 zm_467 zm_468 zm_316 zm_465) rfl rfl rfl (by decide +kernel) ⟨Nat.le_trans (by decide) hR1, Nat.le_trans (by decide) hR2⟩) rfl rfl rfl hl.1 (Nat.le_of_ble_eq_true rfl) d_S_feed_40 ⟨Nat.zero_le _, Nat.zero_le _⟩) (fun H locs hw => ?_)
    refine lv_aload_n hx hb d_S_feed_43 rfl (lv_at hl 0 rfl) ?_
    refine zr_get (ci := 0) G hw 1 1 zi_0 rfl rfl rfl (by decide) zm_445 (fun _ h => h) (v := .int (zs_i σ13 1 1)) rfl d_S_feed_44 ?_
    exact zr_iret G hw hr hlocks hf hQ d_S_feed_47
  · have hf := (if_neg hc).symm.trans hf
    refine lv_bipush (v := (-3)) hx hb d_S_feed_13 (by decide) ?_
    exact zr_iret G hw hr hlocks hf hQ d_S_feed_15
/-! ScheduleCheck.end -/
def y_S_end : MethodName := ⟨"ScheduleCheck","end","(I)I"⟩
theorem d_S_end_0 : decode prog_1_method_4_code 0 = .ok (.iload_n 1, 1) := by decide +kernel
theorem d_S_end_1 : decode prog_1_method_4_code 1 = .ok (.ifCond .lt 11, 3) := by decide +kernel
theorem d_S_end_4 : decode prog_1_method_4_code 4 = .ok (.iload_n 1, 1) := by decide +kernel
theorem d_S_end_5 : decode prog_1_method_4_code 5 = .ok (.aload_n 0, 1) := by decide +kernel
theorem d_S_end_6 : decode prog_1_method_4_code 6 = .ok (.getfield 56, 3) := by decide +kernel
theorem d_S_end_9 : decode prog_1_method_4_code 9 = .ok (.if_icmp .le 5, 3) := by decide +kernel
theorem d_S_end_12 : decode prog_1_method_4_code 12 = .ok (.iconst (-1), 1) := by decide +kernel
theorem d_S_end_13 : decode prog_1_method_4_code 13 = .ok (.ireturn, 1) := by decide +kernel
theorem d_S_end_14 : decode prog_1_method_4_code 14 = .ok (.aload_n 0, 1) := by decide +kernel
theorem d_S_end_15 : decode prog_1_method_4_code 15 = .ok (.iload_n 1, 1) := by decide +kernel
theorem d_S_end_16 : decode prog_1_method_4_code 16 = .ok (.putfield 56, 3) := by decide +kernel
theorem d_S_end_19 : decode prog_1_method_4_code 19 = .ok (.iload_n 1, 1) := by decide +kernel
theorem d_S_end_20 : decode prog_1_method_4_code 20 = .ok (.ireturn, 1) := by decide +kernel
def zf_S_end_12 (F : Nat)   (σ : zs_S) : Option (Int32 × zs_S) :=
  some ((-1), σ)
def zf_S_end (F : Nat) (x1 : Int32) (σ : zs_S) : Option (Int32 × zs_S) :=
  if x1 < 0 then (
    zf_S_end_12 F σ
  ) else (
    if x1 ≤ (zs_i σ 1 1) then (
      zq_v (zs_wi σ 1 1 x1) fun σ1 =>
      some (x1, σ1)
    ) else (
      zf_S_end_12 F σ
    )
  )
set_option maxHeartbeats 4000000 in
set_option maxRecDepth 100000 in
theorem zc_S_end {l : Launch} {D : va_G} {cA : Nat → ClassId} {ad : Nat → Nat} {A : Nat → Prop} {F : Nat} {x1 : Int32} {σ : zs_S} {q : Int32 × zs_S} (hJ : zs_J ad) (hf : zf_S_end F x1 σ = some q) : Met l y_S_end (.code y_S_end prog_1_method_4_code 2 (some .int) :: zd_ww) { frames := 0, cells := 0, slots := 0, locals := 0 } (va_Pc [.ref (ad 1), .int x1] (zs_U 0 D cA ad A σ)) (zs_Qi 0 D cA ad A q) 0 0 A := by
  refine Met.ofW (cc := prog_1_method_4_code) (maxL := 2) (ret := (some .int)) (by decide) rfl ?_
  intro p e s m args below meth c s₁ B hml hv
  obtain ⟨hargs, hP, hK, hD, hZ⟩ := hv
  have G : zs_G 0 p s m args c prog_1_method_4_code 2 "ScheduleCheck" D cA ad A := ⟨⟨B.exec, B.bytes, hml, findClass_of_methodNamed B.named, fun w h => atoms_spec B.pre w (List.mem_cons_of_mem _ h)⟩, hK, hJ, hZ⟩
  have hw : zs_I 0 D cA ad A s σ s.heap [] := ⟨hP, hD, va_S.rf⟩
  have hx := G.1.1
  have hb := G.1.2.1
  have hown := G.1.2.2.2.1
  have hts := G.1.2.2.2.2
  have hr := B.returns
  have hlocks := B.notSynchronized
  have he : entryFrame m args 2 = F0 m 0 ((lg_sl [.ref (ad 1), .int x1] ++ List.replicate (2 - (lg_sl [.ref (ad 1), .int x1]).length) Slot.unset).toArray) [] := by rw [hargs]; exact lg_entry_eq m _ 2
  have hl := lv_entry [.ref (ad 1), .int x1] (n := 2) (Nat.le_of_ble_eq_true rfl)
  rw [he]
  generalize (lg_sl [.ref (ad 1), .int x1] ++ List.replicate (2 - (lg_sl [.ref (ad 1), .int x1]).length) Slot.unset).toArray = ls at hl
  have hl : lv_has ls 2 [(0, .ref (ad 1)), (1, .int x1)] := hl
  obtain ⟨RR, hR⟩ : ∃ z, z = (headSpec (.code y_S_end prog_1_method_4_code 2 (some .int) :: zd_ww) { frames := 0, cells := 0, slots := 0, locals := 0 }).room := ⟨_, rfl⟩
  rw [← hR]
  obtain ⟨QQ, hQ⟩ : ∃ z, z = MQ below (zs_Qi 0 D cA ad A q) args s 0 0 A := ⟨_, rfl⟩
  rw [← hQ]
  have hR1 : 0 ≤ RR.frames := by rw [hR]; exact Nat.le_refl _
  have hR2 : 0 ≤ RR.locals := by rw [hR]; exact Nat.le_refl _
  generalize s.heap = H at hw ⊢
  generalize ([] : List Loc) = locs at hw ⊢
  have K12 : ∀ (σ : zs_S) (H : Heap) (locs : List Loc) (ls : Array Slot), zf_S_end_12 F σ = some q → zs_I 0 D cA ad A s σ H locs → lv_has ls 2 [] → W p l e RR s m args below meth c H locs 0 0 QQ (F0 m 12 ls []) := by
    intro   σ H locs ls hf hw hl
    unfold zf_S_end_12 at hf
    refine lv_iconst (v := (-1)) hx hb d_S_end_12 (by decide) ?_
    exact zr_iret G hw hr hlocks hf hQ d_S_end_13
  unfold zf_S_end at hf
  refine lv_iload_n hx hb d_S_end_0 rfl (lv_at hl 1 rfl) ?_
  refine lv_if_lt hx hb d_S_end_1 (tgt := 12) rfl (fun hc => ?_) (fun hc => ?_)
  · have hf := (if_pos hc).symm.trans hf
    exact K12 σ H locs ls hf hw (lv_sub hl [] rfl)
  · have hf := (if_neg hc).symm.trans hf
    refine lv_iload_n hx hb d_S_end_4 rfl (lv_at hl 1 rfl) ?_
    refine lv_aload_n hx hb d_S_end_5 rfl (lv_at hl 0 rfl) ?_
    refine zr_get (ci := 0) G hw 1 1 zi_0 rfl rfl rfl (by decide) zm_445 (fun _ h => h) (v := .int (zs_i σ 1 1)) rfl d_S_end_6 ?_
    refine lv_icmp_le hx hb d_S_end_9 (tgt := 14) rfl (fun hc => ?_) (fun hc => ?_)
    · have hf := (if_pos hc).symm.trans hf
      refine lv_aload_n hx hb d_S_end_14 rfl (lv_at hl 0 rfl) ?_
      refine lv_iload_n hx hb d_S_end_15 rfl (lv_at hl 1 rfl) ?_
      obtain ⟨σ1, e_σ1, hf⟩ := zq_ss hf
      refine zr_puti (ci := 0) G hw 1 1 zi_0 t_zd0 t_zd0_ok n_zd0 rfl rfl rfl (by decide) rfl zm_445 (fun _ h => h) rfl (x := x1) (t_zd0_ok 1 (by decide)) rfl rfl d_S_end_16 (fun H locs hw => ?_)
      rw [← e_σ1] at hw
      refine lv_iload_n hx hb d_S_end_19 rfl (lv_at hl 1 rfl) ?_
      exact zr_iret G hw hr hlocks hf hQ d_S_end_20
    · have hf := (if_neg hc).symm.trans hf
      exact K12 σ H locs ls hf hw (lv_sub hl [] rfl)
/-! ScheduleCheck.countSort -/
def y_S_countSort : MethodName := ⟨"ScheduleCheck","countSort","(I)I"⟩
theorem d_S_countSort_0 : decode prog_1_method_7_code 0 = .ok (.iconst 0, 1) := by decide +kernel
theorem d_S_countSort_1 : decode prog_1_method_7_code 1 = .ok (.istore_n 2, 1) := by decide +kernel
theorem d_S_countSort_2 : decode prog_1_method_7_code 2 = .ok (.iconst 0, 1) := by decide +kernel
theorem d_S_countSort_3 : decode prog_1_method_7_code 3 = .ok (.istore_n 3, 1) := by decide +kernel
theorem d_S_countSort_4 : decode prog_1_method_7_code 4 = .ok (.iload_n 3, 1) := by decide +kernel
theorem d_S_countSort_5 : decode prog_1_method_7_code 5 = .ok (.aload_n 0, 1) := by decide +kernel
theorem d_S_countSort_6 : decode prog_1_method_7_code 6 = .ok (.getfield 30, 3) := by decide +kernel
theorem d_S_countSort_9 : decode prog_1_method_7_code 9 = .ok (.getfield 80, 3) := by decide +kernel
theorem d_S_countSort_12 : decode prog_1_method_7_code 12 = .ok (.if_icmp .ge 24, 3) := by decide +kernel
theorem d_S_countSort_15 : decode prog_1_method_7_code 15 = .ok (.aload_n 0, 1) := by decide +kernel
theorem d_S_countSort_16 : decode prog_1_method_7_code 16 = .ok (.getfield 49, 3) := by decide +kernel
theorem d_S_countSort_19 : decode prog_1_method_7_code 19 = .ok (.iload_n 3, 1) := by decide +kernel
theorem d_S_countSort_20 : decode prog_1_method_7_code 20 = .ok (.iload_n 1, 1) := by decide +kernel
theorem d_S_countSort_21 : decode prog_1_method_7_code 21 = .ok (.invokevirtual 101, 3) := by decide +kernel
theorem d_S_countSort_24 : decode prog_1_method_7_code 24 = .ok (.ifCond .eq 6, 3) := by decide +kernel
theorem d_S_countSort_27 : decode prog_1_method_7_code 27 = .ok (.iinc 2 1, 3) := by decide +kernel
theorem d_S_countSort_30 : decode prog_1_method_7_code 30 = .ok (.iinc 3 1, 3) := by decide +kernel
theorem d_S_countSort_33 : decode prog_1_method_7_code 33 = .ok (.goto (-29), 3) := by decide +kernel
theorem d_S_countSort_36 : decode prog_1_method_7_code 36 = .ok (.iload_n 2, 1) := by decide +kernel
theorem d_S_countSort_37 : decode prog_1_method_7_code 37 = .ok (.ireturn, 1) := by decide +kernel
def zf_S_countSort_30 (F : Nat) (k4 : Int32 → Int32 → Int32 → zs_S → Option (Int32 × zs_S)) (x1 : Int32) (x2 : Int32) (x3 : Int32) (σ : zs_S) : Option (Int32 × zs_S) :=
  zq_v (x3 + 1) fun v5 =>
  k4 x1 x2 v5 σ
def zf_S_countSort_4 (F : Nat)  : Nat → Int32 → Int32 → Int32 → zs_S → Option (Int32 × zs_S)
  | 0, _, _, _, _ => none
  | n + 1, x1, x2, x3, σ =>
    if (zs_i σ 10 9) ≤ x3 then (
      some (x2, σ)
    ) else (
      zq_c (zf_Explorer_isSort F x3 x1 σ) fun r2 σ1 =>
      if r2 = 0 then (
        zf_S_countSort_30 F (zf_S_countSort_4 F n) x1 x2 x3 σ1
      ) else (
        zq_v (x2 + 1) fun v4 =>
        zf_S_countSort_30 F (zf_S_countSort_4 F n) x1 v4 x3 σ1
      )
    )
def zf_S_countSort (F : Nat) (x1 : Int32) (σ : zs_S) : Option (Int32 × zs_S) :=
  zf_S_countSort_4 F F x1 0 0 σ
set_option maxHeartbeats 4000000 in
set_option maxRecDepth 100000 in
theorem zc_S_countSort {l : Launch} {D : va_G} {cA : Nat → ClassId} {ad : Nat → Nat} {A : Nat → Prop} {F : Nat} {x1 : Int32} {σ : zs_S} {q : Int32 × zs_S} (hJ : zs_J ad) (hf : zf_S_countSort F x1 σ = some q) : Met l y_S_countSort (.code y_S_countSort prog_1_method_7_code 4 (some .int) :: zd_ww) { frames := 3, cells := 0, slots := 0, locals := 67 } (va_Pc [.ref (ad 1), .int x1] (zs_U 0 D cA ad A σ)) (zs_Qi 0 D cA ad A q) 0 0 A := by
  refine Met.ofW (cc := prog_1_method_7_code) (maxL := 4) (ret := (some .int)) (by decide) rfl ?_
  intro p e s m args below meth c s₁ B hml hv
  obtain ⟨hargs, hP, hK, hD, hZ⟩ := hv
  have G : zs_G 0 p s m args c prog_1_method_7_code 4 "ScheduleCheck" D cA ad A := ⟨⟨B.exec, B.bytes, hml, findClass_of_methodNamed B.named, fun w h => atoms_spec B.pre w (List.mem_cons_of_mem _ h)⟩, hK, hJ, hZ⟩
  have hw : zs_I 0 D cA ad A s σ s.heap [] := ⟨hP, hD, va_S.rf⟩
  have hx := G.1.1
  have hb := G.1.2.1
  have hown := G.1.2.2.2.1
  have hts := G.1.2.2.2.2
  have hr := B.returns
  have hlocks := B.notSynchronized
  have he : entryFrame m args 4 = F0 m 0 ((lg_sl [.ref (ad 1), .int x1] ++ List.replicate (4 - (lg_sl [.ref (ad 1), .int x1]).length) Slot.unset).toArray) [] := by rw [hargs]; exact lg_entry_eq m _ 4
  have hl := lv_entry [.ref (ad 1), .int x1] (n := 4) (Nat.le_of_ble_eq_true rfl)
  rw [he]
  generalize (lg_sl [.ref (ad 1), .int x1] ++ List.replicate (4 - (lg_sl [.ref (ad 1), .int x1]).length) Slot.unset).toArray = ls at hl
  have hl : lv_has ls 4 [(0, .ref (ad 1)), (1, .int x1)] := hl
  obtain ⟨RR, hR⟩ : ∃ z, z = (headSpec (.code y_S_countSort prog_1_method_7_code 4 (some .int) :: zd_ww) { frames := 3, cells := 0, slots := 0, locals := 67 }).room := ⟨_, rfl⟩
  rw [← hR]
  obtain ⟨QQ, hQ⟩ : ∃ z, z = MQ below (zs_Qi 0 D cA ad A q) args s 0 0 A := ⟨_, rfl⟩
  rw [← hQ]
  have hR1 : 3 ≤ RR.frames := by rw [hR]; exact Nat.le_refl _
  have hR2 : 67 ≤ RR.locals := by rw [hR]; exact Nat.le_refl _
  generalize s.heap = H at hw ⊢
  generalize ([] : List Loc) = locs at hw ⊢
  have K30 : ∀ (k4 : Int32 → Int32 → Int32 → zs_S → Option (Int32 × zs_S)) (hk4 : ∀ (x1 : Int32) (x2 : Int32) (x3 : Int32) (σ : zs_S) (H : Heap) (locs : List Loc) (ls : Array Slot), k4 x1 x2 x3 σ = some q → zs_I 0 D cA ad A s σ H locs → lv_has ls 4 [(0, .ref (ad 1)), (1, .int x1), (2, .int x2), (3, .int x3)] → W p l e RR s m args below meth c H locs 0 0 QQ (F0 m 4 ls [])) (x1 : Int32) (x2 : Int32) (x3 : Int32) (σ : zs_S) (H : Heap) (locs : List Loc) (ls : Array Slot), zf_S_countSort_30 F k4 x1 x2 x3 σ = some q → zs_I 0 D cA ad A s σ H locs → lv_has ls 4 [(0, .ref (ad 1)), (1, .int x1), (2, .int x2), (3, .int x3)] → W p l e RR s m args below meth c H locs 0 0 QQ (F0 m 30 ls []) := by
    intro k4 hk4 x1 x2 x3 σ H locs ls hf hw hl
    unfold zf_S_countSort_30 at hf
    obtain ⟨v5, e_v5, hf⟩ := zq_ss hf
    refine lv_iinc (v := v5) hx hb d_S_countSort_30 hl (k := 3) rfl (zq_inc (k := 1) (by decide) e_v5) (by decide) rfl (fun ls hl => ?_)
    have hl : lv_has ls 4 [(3, .int v5), (0, .ref (ad 1)), (1, .int x1), (2, .int x2)] := hl
    refine lv_goto hx hb d_S_countSort_33 (tgt := 4) rfl ?_
    exact hk4 x1 x2 v5 σ H locs ls hf hw (lv_sub hl [1, 2, 3, 0] rfl)
  have K4 : ∀ (n : Nat) (x1 : Int32) (x2 : Int32) (x3 : Int32) (σ : zs_S) (H : Heap) (locs : List Loc) (ls : Array Slot), zf_S_countSort_4 F n x1 x2 x3 σ = some q → zs_I 0 D cA ad A s σ H locs → lv_has ls 4 [(0, .ref (ad 1)), (1, .int x1), (2, .int x2), (3, .int x3)] → W p l e RR s m args below meth c H locs 0 0 QQ (F0 m 4 ls []) := by
    intro  n
    induction n with
    | zero => intro x1 x2 x3 σ H locs ls hf hw hl; exact nomatch (show (none : Option (Int32 × zs_S)) = some q from hf)
    | succ n ih =>
      intro x1 x2 x3 σ H locs ls hf hw hl
      rw [zf_S_countSort_4] at hf
      refine lv_iload_n hx hb d_S_countSort_4 rfl (lv_at hl 3 rfl) ?_
      refine lv_aload_n hx hb d_S_countSort_5 rfl (lv_at hl 0 rfl) ?_
      refine zr_get (ci := 0) G hw 1 4 zi_0 rfl rfl rfl (by decide) zm_463 (fun _ h => h) (v := .ref (ad 10)) rfl d_S_countSort_6 ?_
      refine zr_get (ci := 3) G hw 10 9 zi_3 rfl rfl rfl (by decide) zm_469 (fun _ h => h) (v := .int (zs_i σ 10 9)) rfl d_S_countSort_9 ?_
      refine lv_icmp_ge hx hb d_S_countSort_12 (tgt := 36) rfl (fun hc => ?_) (fun hc => ?_)
      · have hf := (if_pos hc).symm.trans hf
        refine lv_iload_n hx hb d_S_countSort_36 rfl (lv_at hl 2 rfl) ?_
        exact zr_iret G hw hr hlocks hf hQ d_S_countSort_37
      · have hf := (if_neg hc).symm.trans hf
        refine lv_aload_n hx hb d_S_countSort_15 rfl (lv_at hl 0 rfl) ?_
        refine zr_get (ci := 0) G hw 1 5 zi_0 rfl rfl rfl (by decide) zm_457 (fun _ h => h) (v := .ref (ad 138)) rfl d_S_countSort_16 ?_
        refine lv_iload_n hx hb d_S_countSort_19 rfl (lv_at hl 3 rfl) ?_
        refine lv_iload_n hx hb d_S_countSort_20 rfl (lv_at hl 1 rfl) ?_
        obtain ⟨r2, σ1, hc3, hf⟩ := zq_cs hf
        refine zr_ci hw (zr_runV (rest := []) (ci := 4) (o := 138) G hw [.int x3, .int x1] (zc_Explorer_isSort hJ hc3) (cwV 2 hts (zs_gV zm_471 zm_472 zm_473 zm_152 zm_470) rfl rfl rfl (by decide +kernel) ⟨Nat.le_trans (by decide) hR1, Nat.le_trans (by decide) hR2⟩) rfl rfl rfl hl.1 (Nat.le_of_ble_eq_true rfl) d_S_countSort_21 ⟨Nat.zero_le _, Nat.zero_le _⟩) (fun H locs hw => ?_)
        refine lv_if_eq hx hb d_S_countSort_24 (tgt := 30) rfl (fun hc => ?_) (fun hc => ?_)
        · have hf := (if_pos hc).symm.trans hf
          exact K30 (zf_S_countSort_4 F n) ih x1 x2 x3 σ1 H locs ls hf hw (lv_sub hl [0, 1, 2, 3] rfl)
        · have hf := (if_neg hc).symm.trans hf
          obtain ⟨v4, e_v4, hf⟩ := zq_ss hf
          refine lv_iinc (v := v4) hx hb d_S_countSort_27 hl (k := 2) rfl (zq_inc (k := 1) (by decide) e_v4) (by decide) rfl (fun ls hl => ?_)
          have hl : lv_has ls 4 [(2, .int v4), (0, .ref (ad 1)), (1, .int x1), (3, .int x3)] := hl
          exact K30 (zf_S_countSort_4 F n) ih x1 v4 x3 σ1 H locs ls hf hw (lv_sub hl [1, 2, 0, 3] rfl)
  unfold zf_S_countSort at hf
  refine lv_iconst (v := 0) hx hb d_S_countSort_0 (by decide) ?_
  refine lv_istore_n hx hb d_S_countSort_1 rfl hl (by decide) rfl (fun ls hl => ?_)
  have hl : lv_has ls 4 [(2, .int 0), (0, .ref (ad 1)), (1, .int x1)] := hl
  refine lv_iconst (v := 0) hx hb d_S_countSort_2 (by decide) ?_
  refine lv_istore_n hx hb d_S_countSort_3 rfl hl (by decide) rfl (fun ls hl => ?_)
  have hl : lv_has ls 4 [(3, .int 0), (2, .int 0), (0, .ref (ad 1)), (1, .int x1)] := hl
  exact K4 F x1 0 0 σ H locs ls hf hw (lv_sub hl [2, 3, 1, 0] rfl)
/-! ScheduleCheck.count -/
def y_S_count : MethodName := ⟨"ScheduleCheck","count","(I)I"⟩
theorem d_S_count_0 : decode prog_1_method_6_code 0 = .ok (.iload_n 1, 1) := by decide +kernel
theorem d_S_count_1 : decode prog_1_method_6_code 1 = .ok (.tableswitch 117 0 8 #[51, 59, 67, 73, 79, 85, 93, 101, 109], 51) := by decide +kernel
theorem d_S_count_52 : decode prog_1_method_6_code 52 = .ok (.aload_n 0, 1) := by decide +kernel
theorem d_S_count_53 : decode prog_1_method_6_code 53 = .ok (.getfield 30, 3) := by decide +kernel
theorem d_S_count_56 : decode prog_1_method_6_code 56 = .ok (.getfield 80, 3) := by decide +kernel
theorem d_S_count_59 : decode prog_1_method_6_code 59 = .ok (.ireturn, 1) := by decide +kernel
theorem d_S_count_60 : decode prog_1_method_6_code 60 = .ok (.aload_n 0, 1) := by decide +kernel
theorem d_S_count_61 : decode prog_1_method_6_code 61 = .ok (.getfield 30, 3) := by decide +kernel
theorem d_S_count_64 : decode prog_1_method_6_code 64 = .ok (.invokevirtual 83, 3) := by decide +kernel
theorem d_S_count_67 : decode prog_1_method_6_code 67 = .ok (.ireturn, 1) := by decide +kernel
theorem d_S_count_68 : decode prog_1_method_6_code 68 = .ok (.aload_n 0, 1) := by decide +kernel
theorem d_S_count_69 : decode prog_1_method_6_code 69 = .ok (.iconst 0, 1) := by decide +kernel
theorem d_S_count_70 : decode prog_1_method_6_code 70 = .ok (.invokevirtual 87, 3) := by decide +kernel
theorem d_S_count_73 : decode prog_1_method_6_code 73 = .ok (.ireturn, 1) := by decide +kernel
theorem d_S_count_74 : decode prog_1_method_6_code 74 = .ok (.aload_n 0, 1) := by decide +kernel
theorem d_S_count_75 : decode prog_1_method_6_code 75 = .ok (.iconst 1, 1) := by decide +kernel
theorem d_S_count_76 : decode prog_1_method_6_code 76 = .ok (.invokevirtual 87, 3) := by decide +kernel
theorem d_S_count_79 : decode prog_1_method_6_code 79 = .ok (.ireturn, 1) := by decide +kernel
theorem d_S_count_80 : decode prog_1_method_6_code 80 = .ok (.aload_n 0, 1) := by decide +kernel
theorem d_S_count_81 : decode prog_1_method_6_code 81 = .ok (.iconst 2, 1) := by decide +kernel
theorem d_S_count_82 : decode prog_1_method_6_code 82 = .ok (.invokevirtual 87, 3) := by decide +kernel
theorem d_S_count_85 : decode prog_1_method_6_code 85 = .ok (.ireturn, 1) := by decide +kernel
theorem d_S_count_86 : decode prog_1_method_6_code 86 = .ok (.aload_n 0, 1) := by decide +kernel
theorem d_S_count_87 : decode prog_1_method_6_code 87 = .ok (.getfield 37, 3) := by decide +kernel
theorem d_S_count_90 : decode prog_1_method_6_code 90 = .ok (.getfield 91, 3) := by decide +kernel
theorem d_S_count_93 : decode prog_1_method_6_code 93 = .ok (.ireturn, 1) := by decide +kernel
theorem d_S_count_94 : decode prog_1_method_6_code 94 = .ok (.aload_n 0, 1) := by decide +kernel
theorem d_S_count_95 : decode prog_1_method_6_code 95 = .ok (.getfield 37, 3) := by decide +kernel
theorem d_S_count_98 : decode prog_1_method_6_code 98 = .ok (.getfield 94, 3) := by decide +kernel
theorem d_S_count_101 : decode prog_1_method_6_code 101 = .ok (.ireturn, 1) := by decide +kernel
theorem d_S_count_102 : decode prog_1_method_6_code 102 = .ok (.aload_n 0, 1) := by decide +kernel
theorem d_S_count_103 : decode prog_1_method_6_code 103 = .ok (.getfield 37, 3) := by decide +kernel
theorem d_S_count_106 : decode prog_1_method_6_code 106 = .ok (.getfield 97, 3) := by decide +kernel
theorem d_S_count_109 : decode prog_1_method_6_code 109 = .ok (.ireturn, 1) := by decide +kernel
theorem d_S_count_110 : decode prog_1_method_6_code 110 = .ok (.aload_n 0, 1) := by decide +kernel
theorem d_S_count_111 : decode prog_1_method_6_code 111 = .ok (.getfield 37, 3) := by decide +kernel
theorem d_S_count_114 : decode prog_1_method_6_code 114 = .ok (.getfield 100, 3) := by decide +kernel
theorem d_S_count_117 : decode prog_1_method_6_code 117 = .ok (.ireturn, 1) := by decide +kernel
theorem d_S_count_118 : decode prog_1_method_6_code 118 = .ok (.iconst (-1), 1) := by decide +kernel
theorem d_S_count_119 : decode prog_1_method_6_code 119 = .ok (.ireturn, 1) := by decide +kernel
def zf_S_count (F : Nat) (x1 : Int32) (σ : zs_S) : Option (Int32 × zs_S) :=
  if x1 = 0 then (
    some (zs_i σ 10 9, σ)
  ) else (
  if x1 = 1 then (
    zq_c (zf_States_pairs F σ) fun r2 σ1 =>
    some (r2, σ1)
  ) else (
  if x1 = 2 then (
    zq_c (zf_S_countSort F 0 σ) fun r5 σ4 =>
    some (r5, σ4)
  ) else (
  if x1 = 3 then (
    zq_c (zf_S_countSort F 1 σ) fun r8 σ7 =>
    some (r8, σ7)
  ) else (
  if x1 = 4 then (
    zq_c (zf_S_countSort F 2 σ) fun r11 σ10 =>
    some (r11, σ10)
  ) else (
  if x1 = 5 then (
    zq_q (zs_r σ 1 6) fun q13 =>
    zq_g (zq_k 0 q13 15) <|
    some (zs_i σ q13 2, σ)
  ) else (
  if x1 = 6 then (
    zq_q (zs_r σ 1 6) fun q15 =>
    zq_g (zq_k 0 q15 15) <|
    some (zs_i σ q15 0, σ)
  ) else (
  if x1 = 7 then (
    zq_q (zs_r σ 1 6) fun q17 =>
    zq_g (zq_k 0 q17 15) <|
    some (zs_i σ q17 1, σ)
  ) else (
  if x1 = 8 then (
    zq_q (zs_r σ 1 6) fun q19 =>
    zq_g (zq_k 0 q19 15) <|
    some (zs_i σ q19 3, σ)
  ) else (
    some ((-1), σ)
  )))))))))
set_option maxHeartbeats 4000000 in
set_option maxRecDepth 100000 in
theorem zc_S_count {l : Launch} {D : va_G} {cA : Nat → ClassId} {ad : Nat → Nat} {A : Nat → Prop} {F : Nat} {x1 : Int32} {σ : zs_S} {q : Int32 × zs_S} (hJ : zs_J ad) (hf : zf_S_count F x1 σ = some q) : Met l y_S_count (.code y_S_count prog_1_method_6_code 2 (some .int) :: zd_ww) { frames := 4, cells := 0, slots := 0, locals := 90 } (va_Pc [.ref (ad 1), .int x1] (zs_U 0 D cA ad A σ)) (zs_Qi 0 D cA ad A q) 0 0 A := by
  refine Met.ofW (cc := prog_1_method_6_code) (maxL := 2) (ret := (some .int)) (by decide) rfl ?_
  intro p e s m args below meth c s₁ B hml hv
  obtain ⟨hargs, hP, hK, hD, hZ⟩ := hv
  have G : zs_G 0 p s m args c prog_1_method_6_code 2 "ScheduleCheck" D cA ad A := ⟨⟨B.exec, B.bytes, hml, findClass_of_methodNamed B.named, fun w h => atoms_spec B.pre w (List.mem_cons_of_mem _ h)⟩, hK, hJ, hZ⟩
  have hw : zs_I 0 D cA ad A s σ s.heap [] := ⟨hP, hD, va_S.rf⟩
  have hx := G.1.1
  have hb := G.1.2.1
  have hown := G.1.2.2.2.1
  have hts := G.1.2.2.2.2
  have hr := B.returns
  have hlocks := B.notSynchronized
  have he : entryFrame m args 2 = F0 m 0 ((lg_sl [.ref (ad 1), .int x1] ++ List.replicate (2 - (lg_sl [.ref (ad 1), .int x1]).length) Slot.unset).toArray) [] := by rw [hargs]; exact lg_entry_eq m _ 2
  have hl := lv_entry [.ref (ad 1), .int x1] (n := 2) (Nat.le_of_ble_eq_true rfl)
  rw [he]
  generalize (lg_sl [.ref (ad 1), .int x1] ++ List.replicate (2 - (lg_sl [.ref (ad 1), .int x1]).length) Slot.unset).toArray = ls at hl
  have hl : lv_has ls 2 [(0, .ref (ad 1)), (1, .int x1)] := hl
  obtain ⟨RR, hR⟩ : ∃ z, z = (headSpec (.code y_S_count prog_1_method_6_code 2 (some .int) :: zd_ww) { frames := 4, cells := 0, slots := 0, locals := 90 }).room := ⟨_, rfl⟩
  rw [← hR]
  obtain ⟨QQ, hQ⟩ : ∃ z, z = MQ below (zs_Qi 0 D cA ad A q) args s 0 0 A := ⟨_, rfl⟩
  rw [← hQ]
  have hR1 : 4 ≤ RR.frames := by rw [hR]; exact Nat.le_refl _
  have hR2 : 90 ≤ RR.locals := by rw [hR]; exact Nat.le_refl _
  generalize s.heap = H at hw ⊢
  generalize ([] : List Loc) = locs at hw ⊢
  unfold zf_S_count at hf
  refine lv_iload_n hx hb d_S_count_0 rfl (lv_at hl 1 rfl) ?_
  by_cases hc0 : x1 = 0
  · have hf := (if_pos hc0).symm.trans hf
    refine lv_tableIn hx hb d_S_count_1 (tgt := 52) (by rw [hc0]; decide) (by rw [hc0]; decide) (by rw [hc0]; rfl) rfl ?_
    refine lv_aload_n hx hb d_S_count_52 rfl (lv_at hl 0 rfl) ?_
    refine zr_get (ci := 0) G hw 1 4 zi_0 rfl rfl rfl (by decide) zm_463 (fun _ h => h) (v := .ref (ad 10)) rfl d_S_count_53 ?_
    refine zr_get (ci := 3) G hw 10 9 zi_3 rfl rfl rfl (by decide) zm_469 (fun _ h => h) (v := .int (zs_i σ 10 9)) rfl d_S_count_56 ?_
    exact zr_iret G hw hr hlocks hf hQ d_S_count_59
  have hf := (if_neg hc0).symm.trans hf
  by_cases hc1 : x1 = 1
  · have hf := (if_pos hc1).symm.trans hf
    refine lv_tableIn hx hb d_S_count_1 (tgt := 60) (by rw [hc1]; decide) (by rw [hc1]; decide) (by rw [hc1]; rfl) rfl ?_
    refine lv_aload_n hx hb d_S_count_60 rfl (lv_at hl 0 rfl) ?_
    refine zr_get (ci := 0) G hw 1 4 zi_0 rfl rfl rfl (by decide) zm_463 (fun _ h => h) (v := .ref (ad 10)) rfl d_S_count_61 ?_
    obtain ⟨r2, σ1, hc3, hf⟩ := zq_cs hf
    refine zr_ci hw (zr_runV (rest := []) (ci := 3) (o := 10) G hw [] (zc_States_pairs hJ hc3) (cwV 0 hts (zs_gV zm_475 zm_476 zm_477 zm_39 zm_474) rfl rfl rfl (by decide +kernel) ⟨Nat.le_trans (by decide) hR1, Nat.le_trans (by decide) hR2⟩) rfl rfl rfl hl.1 (Nat.le_of_ble_eq_true rfl) d_S_count_64 ⟨Nat.zero_le _, Nat.zero_le _⟩) (fun H locs hw => ?_)
    exact zr_iret G hw hr hlocks hf hQ d_S_count_67
  have hf := (if_neg hc1).symm.trans hf
  by_cases hc2 : x1 = 2
  · have hf := (if_pos hc2).symm.trans hf
    refine lv_tableIn hx hb d_S_count_1 (tgt := 68) (by rw [hc2]; decide) (by rw [hc2]; decide) (by rw [hc2]; rfl) rfl ?_
    refine lv_aload_n hx hb d_S_count_68 rfl (lv_at hl 0 rfl) ?_
    refine lv_iconst (v := 0) hx hb d_S_count_69 (by decide) ?_
    obtain ⟨r5, σ4, hc6, hf⟩ := zq_cs hf
    refine zr_ci hw (zr_runV (rest := []) (ci := 0) (o := 1) G hw [.int 0] (zc_S_countSort hJ hc6) (cwV 1 hts (zs_gV zm_479 zm_480 zm_481 zm_316 zm_478) rfl rfl rfl (by decide +kernel) ⟨Nat.le_trans (by decide) hR1, Nat.le_trans (by decide) hR2⟩) rfl rfl rfl hl.1 (Nat.le_of_ble_eq_true rfl) d_S_count_70 ⟨Nat.zero_le _, Nat.zero_le _⟩) (fun H locs hw => ?_)
    exact zr_iret G hw hr hlocks hf hQ d_S_count_73
  have hf := (if_neg hc2).symm.trans hf
  by_cases hc3 : x1 = 3
  · have hf := (if_pos hc3).symm.trans hf
    refine lv_tableIn hx hb d_S_count_1 (tgt := 74) (by rw [hc3]; decide) (by rw [hc3]; decide) (by rw [hc3]; rfl) rfl ?_
    refine lv_aload_n hx hb d_S_count_74 rfl (lv_at hl 0 rfl) ?_
    refine lv_iconst (v := 1) hx hb d_S_count_75 (by decide) ?_
    obtain ⟨r8, σ7, hc9, hf⟩ := zq_cs hf
    refine zr_ci hw (zr_runV (rest := []) (ci := 0) (o := 1) G hw [.int 1] (zc_S_countSort hJ hc9) (cwV 1 hts (zs_gV zm_479 zm_480 zm_481 zm_316 zm_478) rfl rfl rfl (by decide +kernel) ⟨Nat.le_trans (by decide) hR1, Nat.le_trans (by decide) hR2⟩) rfl rfl rfl hl.1 (Nat.le_of_ble_eq_true rfl) d_S_count_76 ⟨Nat.zero_le _, Nat.zero_le _⟩) (fun H locs hw => ?_)
    exact zr_iret G hw hr hlocks hf hQ d_S_count_79
  have hf := (if_neg hc3).symm.trans hf
  by_cases hc4 : x1 = 4
  · have hf := (if_pos hc4).symm.trans hf
    refine lv_tableIn hx hb d_S_count_1 (tgt := 80) (by rw [hc4]; decide) (by rw [hc4]; decide) (by rw [hc4]; rfl) rfl ?_
    refine lv_aload_n hx hb d_S_count_80 rfl (lv_at hl 0 rfl) ?_
    refine lv_iconst (v := 2) hx hb d_S_count_81 (by decide) ?_
    obtain ⟨r11, σ10, hc12, hf⟩ := zq_cs hf
    refine zr_ci hw (zr_runV (rest := []) (ci := 0) (o := 1) G hw [.int 2] (zc_S_countSort hJ hc12) (cwV 1 hts (zs_gV zm_479 zm_480 zm_481 zm_316 zm_478) rfl rfl rfl (by decide +kernel) ⟨Nat.le_trans (by decide) hR1, Nat.le_trans (by decide) hR2⟩) rfl rfl rfl hl.1 (Nat.le_of_ble_eq_true rfl) d_S_count_82 ⟨Nat.zero_le _, Nat.zero_le _⟩) (fun H locs hw => ?_)
    exact zr_iret G hw hr hlocks hf hQ d_S_count_85
  have hf := (if_neg hc4).symm.trans hf
  by_cases hc5 : x1 = 5
  · have hf := (if_pos hc5).symm.trans hf
    refine lv_tableIn hx hb d_S_count_1 (tgt := 86) (by rw [hc5]; decide) (by rw [hc5]; decide) (by rw [hc5]; rfl) rfl ?_
    refine lv_aload_n hx hb d_S_count_86 rfl (lv_at hl 0 rfl) ?_
    obtain ⟨q13, e_q13, h_q13, hf⟩ := zq_qs hf
    refine zr_get (ci := 0) G hw 1 6 zi_0 rfl rfl rfl (by decide) zm_456 (fun _ h => h) (v := .ref (ad q13)) (zs_fr rfl e_q13 h_q13) d_S_count_87 ?_
    obtain ⟨hs14, hf⟩ := zq_gs hf
    have hs14 := zq_ks hs14
    refine zr_get (ci := 5) G hw q13 2 zi_5 hs14 rfl rfl (by decide) zm_482 (fun _ h => h) (v := .int (zs_i σ q13 2)) rfl d_S_count_90 ?_
    exact zr_iret G hw hr hlocks hf hQ d_S_count_93
  have hf := (if_neg hc5).symm.trans hf
  by_cases hc6 : x1 = 6
  · have hf := (if_pos hc6).symm.trans hf
    refine lv_tableIn hx hb d_S_count_1 (tgt := 94) (by rw [hc6]; decide) (by rw [hc6]; decide) (by rw [hc6]; rfl) rfl ?_
    refine lv_aload_n hx hb d_S_count_94 rfl (lv_at hl 0 rfl) ?_
    obtain ⟨q15, e_q15, h_q15, hf⟩ := zq_qs hf
    refine zr_get (ci := 0) G hw 1 6 zi_0 rfl rfl rfl (by decide) zm_456 (fun _ h => h) (v := .ref (ad q15)) (zs_fr rfl e_q15 h_q15) d_S_count_95 ?_
    obtain ⟨hs16, hf⟩ := zq_gs hf
    have hs16 := zq_ks hs16
    refine zr_get (ci := 5) G hw q15 0 zi_5 hs16 rfl rfl (by decide) zm_483 (fun _ h => h) (v := .int (zs_i σ q15 0)) rfl d_S_count_98 ?_
    exact zr_iret G hw hr hlocks hf hQ d_S_count_101
  have hf := (if_neg hc6).symm.trans hf
  by_cases hc7 : x1 = 7
  · have hf := (if_pos hc7).symm.trans hf
    refine lv_tableIn hx hb d_S_count_1 (tgt := 102) (by rw [hc7]; decide) (by rw [hc7]; decide) (by rw [hc7]; rfl) rfl ?_
    refine lv_aload_n hx hb d_S_count_102 rfl (lv_at hl 0 rfl) ?_
    obtain ⟨q17, e_q17, h_q17, hf⟩ := zq_qs hf
    refine zr_get (ci := 0) G hw 1 6 zi_0 rfl rfl rfl (by decide) zm_456 (fun _ h => h) (v := .ref (ad q17)) (zs_fr rfl e_q17 h_q17) d_S_count_103 ?_
    obtain ⟨hs18, hf⟩ := zq_gs hf
    have hs18 := zq_ks hs18
    refine zr_get (ci := 5) G hw q17 1 zi_5 hs18 rfl rfl (by decide) zm_484 (fun _ h => h) (v := .int (zs_i σ q17 1)) rfl d_S_count_106 ?_
    exact zr_iret G hw hr hlocks hf hQ d_S_count_109
  have hf := (if_neg hc7).symm.trans hf
  by_cases hc8 : x1 = 8
  · have hf := (if_pos hc8).symm.trans hf
    refine lv_tableIn hx hb d_S_count_1 (tgt := 110) (by rw [hc8]; decide) (by rw [hc8]; decide) (by rw [hc8]; rfl) rfl ?_
    refine lv_aload_n hx hb d_S_count_110 rfl (lv_at hl 0 rfl) ?_
    obtain ⟨q19, e_q19, h_q19, hf⟩ := zq_qs hf
    refine zr_get (ci := 0) G hw 1 6 zi_0 rfl rfl rfl (by decide) zm_456 (fun _ h => h) (v := .ref (ad q19)) (zs_fr rfl e_q19 h_q19) d_S_count_111 ?_
    obtain ⟨hs20, hf⟩ := zq_gs hf
    have hs20 := zq_ks hs20
    refine zr_get (ci := 5) G hw q19 3 zi_5 hs20 rfl rfl (by decide) zm_485 (fun _ h => h) (v := .int (zs_i σ q19 3)) rfl d_S_count_114 ?_
    exact zr_iret G hw hr hlocks hf hQ d_S_count_117
  have hf := (if_neg hc8).symm.trans hf
  refine lv_tableOut hx hb d_S_count_1 (tgt := 118) (by have g0 := zq_o1 (lo := 0) (by decide) hc0; have g1 := zq_o1 (lo := 1) (by decide) hc1; have g2 := zq_o1 (lo := 2) (by decide) hc2; have g3 := zq_o1 (lo := 3) (by decide) hc3; have g4 := zq_o1 (lo := 4) (by decide) hc4; have g5 := zq_o1 (lo := 5) (by decide) hc5; have g6 := zq_o1 (lo := 6) (by decide) hc6; have g7 := zq_o1 (lo := 7) (by decide) hc7; have g8 := zq_o1 (lo := 8) (by decide) hc8; omega) rfl ?_
  refine lv_iconst (v := (-1)) hx hb d_S_count_118 (by decide) ?_
  exact zr_iret G hw hr hlocks hf hQ d_S_count_119
/-! ScheduleCheck.first -/
def y_S_first : MethodName := ⟨"ScheduleCheck","first","(I)I"⟩
theorem d_S_first_0 : decode prog_1_method_8_code 0 = .ok (.iload_n 1, 1) := by decide +kernel
theorem d_S_first_1 : decode prog_1_method_8_code 1 = .ok (.ifCond .lt 8, 3) := by decide +kernel
theorem d_S_first_4 : decode prog_1_method_8_code 4 = .ok (.iload_n 1, 1) := by decide +kernel
theorem d_S_first_5 : decode prog_1_method_8_code 5 = .ok (.iconst 2, 1) := by decide +kernel
theorem d_S_first_6 : decode prog_1_method_8_code 6 = .ok (.if_icmp .le 5, 3) := by decide +kernel
theorem d_S_first_9 : decode prog_1_method_8_code 9 = .ok (.iconst (-1), 1) := by decide +kernel
theorem d_S_first_10 : decode prog_1_method_8_code 10 = .ok (.ireturn, 1) := by decide +kernel
theorem d_S_first_11 : decode prog_1_method_8_code 11 = .ok (.iconst 0, 1) := by decide +kernel
theorem d_S_first_12 : decode prog_1_method_8_code 12 = .ok (.istore_n 2, 1) := by decide +kernel
theorem d_S_first_13 : decode prog_1_method_8_code 13 = .ok (.iload_n 2, 1) := by decide +kernel
theorem d_S_first_14 : decode prog_1_method_8_code 14 = .ok (.aload_n 0, 1) := by decide +kernel
theorem d_S_first_15 : decode prog_1_method_8_code 15 = .ok (.getfield 30, 3) := by decide +kernel
theorem d_S_first_18 : decode prog_1_method_8_code 18 = .ok (.getfield 80, 3) := by decide +kernel
theorem d_S_first_21 : decode prog_1_method_8_code 21 = .ok (.if_icmp .ge 23, 3) := by decide +kernel
theorem d_S_first_24 : decode prog_1_method_8_code 24 = .ok (.aload_n 0, 1) := by decide +kernel
theorem d_S_first_25 : decode prog_1_method_8_code 25 = .ok (.getfield 49, 3) := by decide +kernel
theorem d_S_first_28 : decode prog_1_method_8_code 28 = .ok (.iload_n 2, 1) := by decide +kernel
theorem d_S_first_29 : decode prog_1_method_8_code 29 = .ok (.iload_n 1, 1) := by decide +kernel
theorem d_S_first_30 : decode prog_1_method_8_code 30 = .ok (.invokevirtual 101, 3) := by decide +kernel
theorem d_S_first_33 : decode prog_1_method_8_code 33 = .ok (.ifCond .eq 5, 3) := by decide +kernel
theorem d_S_first_36 : decode prog_1_method_8_code 36 = .ok (.iload_n 2, 1) := by decide +kernel
theorem d_S_first_37 : decode prog_1_method_8_code 37 = .ok (.ireturn, 1) := by decide +kernel
theorem d_S_first_38 : decode prog_1_method_8_code 38 = .ok (.iinc 2 1, 3) := by decide +kernel
theorem d_S_first_41 : decode prog_1_method_8_code 41 = .ok (.goto (-28), 3) := by decide +kernel
theorem d_S_first_44 : decode prog_1_method_8_code 44 = .ok (.bipush (-2), 2) := by decide +kernel
theorem d_S_first_46 : decode prog_1_method_8_code 46 = .ok (.ireturn, 1) := by decide +kernel
def zf_S_first_13 (F : Nat)  : Nat → Int32 → Int32 → zs_S → Option (Int32 × zs_S)
  | 0, _, _, _ => none
  | n + 1, x1, x2, σ =>
    if (zs_i σ 10 9) ≤ x2 then (
      some ((-2), σ)
    ) else (
      zq_c (zf_Explorer_isSort F x2 x1 σ) fun r2 σ1 =>
      if r2 = 0 then (
        zq_v (x2 + 1) fun v4 =>
        (zf_S_first_13 F n) x1 v4 σ1
      ) else (
        some (x2, σ1)
      )
    )
def zf_S_first_9 (F : Nat)   (σ : zs_S) : Option (Int32 × zs_S) :=
  some ((-1), σ)
def zf_S_first (F : Nat) (x1 : Int32) (σ : zs_S) : Option (Int32 × zs_S) :=
  if x1 < 0 then (
    zf_S_first_9 F σ
  ) else (
    if x1 ≤ 2 then (
      zf_S_first_13 F F x1 0 σ
    ) else (
      zf_S_first_9 F σ
    )
  )
set_option maxHeartbeats 4000000 in
set_option maxRecDepth 100000 in
theorem zc_S_first {l : Launch} {D : va_G} {cA : Nat → ClassId} {ad : Nat → Nat} {A : Nat → Prop} {F : Nat} {x1 : Int32} {σ : zs_S} {q : Int32 × zs_S} (hJ : zs_J ad) (hf : zf_S_first F x1 σ = some q) : Met l y_S_first (.code y_S_first prog_1_method_8_code 3 (some .int) :: zd_ww) { frames := 3, cells := 0, slots := 0, locals := 67 } (va_Pc [.ref (ad 1), .int x1] (zs_U 0 D cA ad A σ)) (zs_Qi 0 D cA ad A q) 0 0 A := by
  refine Met.ofW (cc := prog_1_method_8_code) (maxL := 3) (ret := (some .int)) (by decide) rfl ?_
  intro p e s m args below meth c s₁ B hml hv
  obtain ⟨hargs, hP, hK, hD, hZ⟩ := hv
  have G : zs_G 0 p s m args c prog_1_method_8_code 3 "ScheduleCheck" D cA ad A := ⟨⟨B.exec, B.bytes, hml, findClass_of_methodNamed B.named, fun w h => atoms_spec B.pre w (List.mem_cons_of_mem _ h)⟩, hK, hJ, hZ⟩
  have hw : zs_I 0 D cA ad A s σ s.heap [] := ⟨hP, hD, va_S.rf⟩
  have hx := G.1.1
  have hb := G.1.2.1
  have hown := G.1.2.2.2.1
  have hts := G.1.2.2.2.2
  have hr := B.returns
  have hlocks := B.notSynchronized
  have he : entryFrame m args 3 = F0 m 0 ((lg_sl [.ref (ad 1), .int x1] ++ List.replicate (3 - (lg_sl [.ref (ad 1), .int x1]).length) Slot.unset).toArray) [] := by rw [hargs]; exact lg_entry_eq m _ 3
  have hl := lv_entry [.ref (ad 1), .int x1] (n := 3) (Nat.le_of_ble_eq_true rfl)
  rw [he]
  generalize (lg_sl [.ref (ad 1), .int x1] ++ List.replicate (3 - (lg_sl [.ref (ad 1), .int x1]).length) Slot.unset).toArray = ls at hl
  have hl : lv_has ls 3 [(0, .ref (ad 1)), (1, .int x1)] := hl
  obtain ⟨RR, hR⟩ : ∃ z, z = (headSpec (.code y_S_first prog_1_method_8_code 3 (some .int) :: zd_ww) { frames := 3, cells := 0, slots := 0, locals := 67 }).room := ⟨_, rfl⟩
  rw [← hR]
  obtain ⟨QQ, hQ⟩ : ∃ z, z = MQ below (zs_Qi 0 D cA ad A q) args s 0 0 A := ⟨_, rfl⟩
  rw [← hQ]
  have hR1 : 3 ≤ RR.frames := by rw [hR]; exact Nat.le_refl _
  have hR2 : 67 ≤ RR.locals := by rw [hR]; exact Nat.le_refl _
  generalize s.heap = H at hw ⊢
  generalize ([] : List Loc) = locs at hw ⊢
  have K13 : ∀ (n : Nat) (x1 : Int32) (x2 : Int32) (σ : zs_S) (H : Heap) (locs : List Loc) (ls : Array Slot), zf_S_first_13 F n x1 x2 σ = some q → zs_I 0 D cA ad A s σ H locs → lv_has ls 3 [(0, .ref (ad 1)), (1, .int x1), (2, .int x2)] → W p l e RR s m args below meth c H locs 0 0 QQ (F0 m 13 ls []) := by
    intro  n
    induction n with
    | zero => intro x1 x2 σ H locs ls hf hw hl; exact nomatch (show (none : Option (Int32 × zs_S)) = some q from hf)
    | succ n ih =>
      intro x1 x2 σ H locs ls hf hw hl
      rw [zf_S_first_13] at hf
      refine lv_iload_n hx hb d_S_first_13 rfl (lv_at hl 2 rfl) ?_
      refine lv_aload_n hx hb d_S_first_14 rfl (lv_at hl 0 rfl) ?_
      refine zr_get (ci := 0) G hw 1 4 zi_0 rfl rfl rfl (by decide) zm_463 (fun _ h => h) (v := .ref (ad 10)) rfl d_S_first_15 ?_
      refine zr_get (ci := 3) G hw 10 9 zi_3 rfl rfl rfl (by decide) zm_469 (fun _ h => h) (v := .int (zs_i σ 10 9)) rfl d_S_first_18 ?_
      refine lv_icmp_ge hx hb d_S_first_21 (tgt := 44) rfl (fun hc => ?_) (fun hc => ?_)
      · have hf := (if_pos hc).symm.trans hf
        refine lv_bipush (v := (-2)) hx hb d_S_first_44 (by decide) ?_
        exact zr_iret G hw hr hlocks hf hQ d_S_first_46
      · have hf := (if_neg hc).symm.trans hf
        refine lv_aload_n hx hb d_S_first_24 rfl (lv_at hl 0 rfl) ?_
        refine zr_get (ci := 0) G hw 1 5 zi_0 rfl rfl rfl (by decide) zm_457 (fun _ h => h) (v := .ref (ad 138)) rfl d_S_first_25 ?_
        refine lv_iload_n hx hb d_S_first_28 rfl (lv_at hl 2 rfl) ?_
        refine lv_iload_n hx hb d_S_first_29 rfl (lv_at hl 1 rfl) ?_
        obtain ⟨r2, σ1, hc3, hf⟩ := zq_cs hf
        refine zr_ci hw (zr_runV (rest := []) (ci := 4) (o := 138) G hw [.int x2, .int x1] (zc_Explorer_isSort hJ hc3) (cwV 2 hts (zs_gV zm_471 zm_472 zm_473 zm_152 zm_470) rfl rfl rfl (by decide +kernel) ⟨Nat.le_trans (by decide) hR1, Nat.le_trans (by decide) hR2⟩) rfl rfl rfl hl.1 (Nat.le_of_ble_eq_true rfl) d_S_first_30 ⟨Nat.zero_le _, Nat.zero_le _⟩) (fun H locs hw => ?_)
        refine lv_if_eq hx hb d_S_first_33 (tgt := 38) rfl (fun hc => ?_) (fun hc => ?_)
        · have hf := (if_pos hc).symm.trans hf
          obtain ⟨v4, e_v4, hf⟩ := zq_ss hf
          refine lv_iinc (v := v4) hx hb d_S_first_38 hl (k := 2) rfl (zq_inc (k := 1) (by decide) e_v4) (by decide) rfl (fun ls hl => ?_)
          have hl : lv_has ls 3 [(2, .int v4), (0, .ref (ad 1)), (1, .int x1)] := hl
          refine lv_goto hx hb d_S_first_41 (tgt := 13) rfl ?_
          exact ih x1 v4 σ1 H locs ls hf hw (lv_sub hl [1, 2, 0] rfl)
        · have hf := (if_neg hc).symm.trans hf
          refine lv_iload_n hx hb d_S_first_36 rfl (lv_at hl 2 rfl) ?_
          exact zr_iret G hw hr hlocks hf hQ d_S_first_37
  have K9 : ∀ (σ : zs_S) (H : Heap) (locs : List Loc) (ls : Array Slot), zf_S_first_9 F σ = some q → zs_I 0 D cA ad A s σ H locs → lv_has ls 3 [] → W p l e RR s m args below meth c H locs 0 0 QQ (F0 m 9 ls []) := by
    intro   σ H locs ls hf hw hl
    unfold zf_S_first_9 at hf
    refine lv_iconst (v := (-1)) hx hb d_S_first_9 (by decide) ?_
    exact zr_iret G hw hr hlocks hf hQ d_S_first_10
  unfold zf_S_first at hf
  refine lv_iload_n hx hb d_S_first_0 rfl (lv_at hl 1 rfl) ?_
  refine lv_if_lt hx hb d_S_first_1 (tgt := 9) rfl (fun hc => ?_) (fun hc => ?_)
  · have hf := (if_pos hc).symm.trans hf
    exact K9 σ H locs ls hf hw (lv_sub hl [] rfl)
  · have hf := (if_neg hc).symm.trans hf
    refine lv_iload_n hx hb d_S_first_4 rfl (lv_at hl 1 rfl) ?_
    refine lv_iconst (v := 2) hx hb d_S_first_5 (by decide) ?_
    refine lv_icmp_le hx hb d_S_first_6 (tgt := 11) rfl (fun hc => ?_) (fun hc => ?_)
    · have hf := (if_pos hc).symm.trans hf
      refine lv_iconst (v := 0) hx hb d_S_first_11 (by decide) ?_
      refine lv_istore_n hx hb d_S_first_12 rfl hl (by decide) rfl (fun ls hl => ?_)
      have hl : lv_has ls 3 [(2, .int 0), (0, .ref (ad 1)), (1, .int x1)] := hl
      exact K13 F x1 0 σ H locs ls hf hw (lv_sub hl [1, 2, 0] rfl)
    · have hf := (if_neg hc).symm.trans hf
      exact K9 σ H locs ls hf hw (lv_sub hl [] rfl)
/-! ScheduleCheck.look -/
def y_S_look : MethodName := ⟨"ScheduleCheck","look","(II)I"⟩
theorem d_S_look_0 : decode prog_1_method_9_code 0 = .ok (.iload_n 2, 1) := by decide +kernel
theorem d_S_look_1 : decode prog_1_method_9_code 1 = .ok (.ifCond .lt 8, 3) := by decide +kernel
theorem d_S_look_4 : decode prog_1_method_9_code 4 = .ok (.iload_n 2, 1) := by decide +kernel
theorem d_S_look_5 : decode prog_1_method_9_code 5 = .ok (.iconst 4, 1) := by decide +kernel
theorem d_S_look_6 : decode prog_1_method_9_code 6 = .ok (.if_icmp .le 5, 3) := by decide +kernel
theorem d_S_look_9 : decode prog_1_method_9_code 9 = .ok (.iconst (-1), 1) := by decide +kernel
theorem d_S_look_10 : decode prog_1_method_9_code 10 = .ok (.ireturn, 1) := by decide +kernel
theorem d_S_look_11 : decode prog_1_method_9_code 11 = .ok (.aload_n 0, 1) := by decide +kernel
theorem d_S_look_12 : decode prog_1_method_9_code 12 = .ok (.getfield 30, 3) := by decide +kernel
theorem d_S_look_15 : decode prog_1_method_9_code 15 = .ok (.iload_n 1, 1) := by decide +kernel
theorem d_S_look_16 : decode prog_1_method_9_code 16 = .ok (.invokevirtual 105, 3) := by decide +kernel
theorem d_S_look_19 : decode prog_1_method_9_code 19 = .ok (.ifCond .ne 6, 3) := by decide +kernel
theorem d_S_look_22 : decode prog_1_method_9_code 22 = .ok (.bipush (-2), 2) := by decide +kernel
theorem d_S_look_24 : decode prog_1_method_9_code 24 = .ok (.ireturn, 1) := by decide +kernel
theorem d_S_look_25 : decode prog_1_method_9_code 25 = .ok (.iload_n 2, 1) := by decide +kernel
theorem d_S_look_26 : decode prog_1_method_9_code 26 = .ok (.tableswitch 71 0 3 #[30, 40, 50, 60], 30) := by decide +kernel
theorem d_S_look_56 : decode prog_1_method_9_code 56 = .ok (.aload_n 0, 1) := by decide +kernel
theorem d_S_look_57 : decode prog_1_method_9_code 57 = .ok (.getfield 30, 3) := by decide +kernel
theorem d_S_look_60 : decode prog_1_method_9_code 60 = .ok (.getfield 109, 3) := by decide +kernel
theorem d_S_look_63 : decode prog_1_method_9_code 63 = .ok (.iload_n 1, 1) := by decide +kernel
theorem d_S_look_64 : decode prog_1_method_9_code 64 = .ok (.iaload, 1) := by decide +kernel
theorem d_S_look_65 : decode prog_1_method_9_code 65 = .ok (.ireturn, 1) := by decide +kernel
theorem d_S_look_66 : decode prog_1_method_9_code 66 = .ok (.aload_n 0, 1) := by decide +kernel
theorem d_S_look_67 : decode prog_1_method_9_code 67 = .ok (.getfield 30, 3) := by decide +kernel
theorem d_S_look_70 : decode prog_1_method_9_code 70 = .ok (.getfield 113, 3) := by decide +kernel
theorem d_S_look_73 : decode prog_1_method_9_code 73 = .ok (.iload_n 1, 1) := by decide +kernel
theorem d_S_look_74 : decode prog_1_method_9_code 74 = .ok (.iaload, 1) := by decide +kernel
theorem d_S_look_75 : decode prog_1_method_9_code 75 = .ok (.ireturn, 1) := by decide +kernel
theorem d_S_look_76 : decode prog_1_method_9_code 76 = .ok (.aload_n 0, 1) := by decide +kernel
theorem d_S_look_77 : decode prog_1_method_9_code 77 = .ok (.getfield 30, 3) := by decide +kernel
theorem d_S_look_80 : decode prog_1_method_9_code 80 = .ok (.getfield 116, 3) := by decide +kernel
theorem d_S_look_83 : decode prog_1_method_9_code 83 = .ok (.iload_n 1, 1) := by decide +kernel
theorem d_S_look_84 : decode prog_1_method_9_code 84 = .ok (.iaload, 1) := by decide +kernel
theorem d_S_look_85 : decode prog_1_method_9_code 85 = .ok (.ireturn, 1) := by decide +kernel
theorem d_S_look_86 : decode prog_1_method_9_code 86 = .ok (.aload_n 0, 1) := by decide +kernel
theorem d_S_look_87 : decode prog_1_method_9_code 87 = .ok (.getfield 30, 3) := by decide +kernel
theorem d_S_look_90 : decode prog_1_method_9_code 90 = .ok (.iload_n 1, 1) := by decide +kernel
theorem d_S_look_91 : decode prog_1_method_9_code 91 = .ok (.bipush 32, 2) := by decide +kernel
theorem d_S_look_93 : decode prog_1_method_9_code 93 = .ok (.invokevirtual 119, 3) := by decide +kernel
theorem d_S_look_96 : decode prog_1_method_9_code 96 = .ok (.ireturn, 1) := by decide +kernel
theorem d_S_look_97 : decode prog_1_method_9_code 97 = .ok (.aload_n 0, 1) := by decide +kernel
theorem d_S_look_98 : decode prog_1_method_9_code 98 = .ok (.getfield 30, 3) := by decide +kernel
theorem d_S_look_101 : decode prog_1_method_9_code 101 = .ok (.iload_n 1, 1) := by decide +kernel
theorem d_S_look_102 : decode prog_1_method_9_code 102 = .ok (.bipush 33, 2) := by decide +kernel
theorem d_S_look_104 : decode prog_1_method_9_code 104 = .ok (.invokevirtual 119, 3) := by decide +kernel
theorem d_S_look_107 : decode prog_1_method_9_code 107 = .ok (.ireturn, 1) := by decide +kernel
def zf_S_look_9 (F : Nat)   (σ : zs_S) : Option (Int32 × zs_S) :=
  some ((-1), σ)
def zf_S_look (F : Nat) (x1 : Int32) (x2 : Int32) (σ : zs_S) : Option (Int32 × zs_S) :=
  if x2 < 0 then (
    zf_S_look_9 F σ
  ) else (
    if x2 ≤ 4 then (
      zq_c (zf_States_has F x1 σ) fun r2 σ1 =>
      if r2 = 0 then (
        some ((-2), σ1)
      ) else (
        if x2 = 0 then (
          zq_g (zq_b x1 800) <|
          some (zs_i σ1 12 (x1).toNatClampNeg, σ1)
        ) else (
        if x2 = 1 then (
          zq_g (zq_b x1 800) <|
          some (zs_i σ1 14 (x1).toNatClampNeg, σ1)
        ) else (
        if x2 = 2 then (
          zq_g (zq_b x1 800) <|
          some (zs_i σ1 13 (x1).toNatClampNeg, σ1)
        ) else (
        if x2 = 3 then (
          zq_c (zf_States_cell F x1 32 σ1) fun r8 σ7 =>
          some (r8, σ7)
        ) else (
          zq_c (zf_States_cell F x1 33 σ1) fun r11 σ10 =>
          some (r11, σ10)
        ))))
      )
    ) else (
      zf_S_look_9 F σ
    )
  )
set_option maxHeartbeats 4000000 in
set_option maxRecDepth 100000 in
theorem zc_S_look {l : Launch} {D : va_G} {cA : Nat → ClassId} {ad : Nat → Nat} {A : Nat → Prop} {F : Nat} {x1 : Int32} {x2 : Int32} {σ : zs_S} {q : Int32 × zs_S} (hJ : zs_J ad) (hf : zf_S_look F x1 x2 σ = some q) : Met l y_S_look (.code y_S_look prog_1_method_9_code 3 (some .int) :: zd_ww) { frames := 1, cells := 0, slots := 0, locals := 22 } (va_Pc [.ref (ad 1), .int x1, .int x2] (zs_U 0 D cA ad A σ)) (zs_Qi 0 D cA ad A q) 0 0 A := by
  refine Met.ofW (cc := prog_1_method_9_code) (maxL := 3) (ret := (some .int)) (by decide) rfl ?_
  intro p e s m args below meth c s₁ B hml hv
  obtain ⟨hargs, hP, hK, hD, hZ⟩ := hv
  have G : zs_G 0 p s m args c prog_1_method_9_code 3 "ScheduleCheck" D cA ad A := ⟨⟨B.exec, B.bytes, hml, findClass_of_methodNamed B.named, fun w h => atoms_spec B.pre w (List.mem_cons_of_mem _ h)⟩, hK, hJ, hZ⟩
  have hw : zs_I 0 D cA ad A s σ s.heap [] := ⟨hP, hD, va_S.rf⟩
  have hx := G.1.1
  have hb := G.1.2.1
  have hown := G.1.2.2.2.1
  have hts := G.1.2.2.2.2
  have hr := B.returns
  have hlocks := B.notSynchronized
  have he : entryFrame m args 3 = F0 m 0 ((lg_sl [.ref (ad 1), .int x1, .int x2] ++ List.replicate (3 - (lg_sl [.ref (ad 1), .int x1, .int x2]).length) Slot.unset).toArray) [] := by rw [hargs]; exact lg_entry_eq m _ 3
  have hl := lv_entry [.ref (ad 1), .int x1, .int x2] (n := 3) (Nat.le_of_ble_eq_true rfl)
  rw [he]
  generalize (lg_sl [.ref (ad 1), .int x1, .int x2] ++ List.replicate (3 - (lg_sl [.ref (ad 1), .int x1, .int x2]).length) Slot.unset).toArray = ls at hl
  have hl : lv_has ls 3 [(0, .ref (ad 1)), (1, .int x1), (2, .int x2)] := hl
  obtain ⟨RR, hR⟩ : ∃ z, z = (headSpec (.code y_S_look prog_1_method_9_code 3 (some .int) :: zd_ww) { frames := 1, cells := 0, slots := 0, locals := 22 }).room := ⟨_, rfl⟩
  rw [← hR]
  obtain ⟨QQ, hQ⟩ : ∃ z, z = MQ below (zs_Qi 0 D cA ad A q) args s 0 0 A := ⟨_, rfl⟩
  rw [← hQ]
  have hR1 : 1 ≤ RR.frames := by rw [hR]; exact Nat.le_refl _
  have hR2 : 22 ≤ RR.locals := by rw [hR]; exact Nat.le_refl _
  generalize s.heap = H at hw ⊢
  generalize ([] : List Loc) = locs at hw ⊢
  have K9 : ∀ (σ : zs_S) (H : Heap) (locs : List Loc) (ls : Array Slot), zf_S_look_9 F σ = some q → zs_I 0 D cA ad A s σ H locs → lv_has ls 3 [] → W p l e RR s m args below meth c H locs 0 0 QQ (F0 m 9 ls []) := by
    intro   σ H locs ls hf hw hl
    unfold zf_S_look_9 at hf
    refine lv_iconst (v := (-1)) hx hb d_S_look_9 (by decide) ?_
    exact zr_iret G hw hr hlocks hf hQ d_S_look_10
  unfold zf_S_look at hf
  refine lv_iload_n hx hb d_S_look_0 rfl (lv_at hl 2 rfl) ?_
  refine lv_if_lt hx hb d_S_look_1 (tgt := 9) rfl (fun hc => ?_) (fun hc => ?_)
  · have hf := (if_pos hc).symm.trans hf
    exact K9 σ H locs ls hf hw (lv_sub hl [] rfl)
  · have hf := (if_neg hc).symm.trans hf
    refine lv_iload_n hx hb d_S_look_4 rfl (lv_at hl 2 rfl) ?_
    refine lv_iconst (v := 4) hx hb d_S_look_5 (by decide) ?_
    refine lv_icmp_le hx hb d_S_look_6 (tgt := 11) rfl (fun hc => ?_) (fun hc => ?_)
    · have hf := (if_pos hc).symm.trans hf
      refine lv_aload_n hx hb d_S_look_11 rfl (lv_at hl 0 rfl) ?_
      refine zr_get (ci := 0) G hw 1 4 zi_0 rfl rfl rfl (by decide) zm_463 (fun _ h => h) (v := .ref (ad 10)) rfl d_S_look_12 ?_
      refine lv_iload_n hx hb d_S_look_15 rfl (lv_at hl 1 rfl) ?_
      obtain ⟨r2, σ1, hc3, hf⟩ := zq_cs hf
      refine zr_ci hw (zr_runV (rest := []) (ci := 3) (o := 10) G hw [.int x1] (zc_States_has hJ hc3) (cwV 1 hts (zs_gV zm_487 zm_488 zm_489 zm_39 zm_486) rfl rfl rfl (by decide +kernel) ⟨Nat.le_trans (by decide) hR1, Nat.le_trans (by decide) hR2⟩) rfl rfl rfl hl.1 (Nat.le_of_ble_eq_true rfl) d_S_look_16 ⟨Nat.zero_le _, Nat.zero_le _⟩) (fun H locs hw => ?_)
      refine lv_if_ne hx hb d_S_look_19 (tgt := 25) rfl (fun hc => ?_) (fun hc => ?_)
      · have hf := (if_neg hc).symm.trans hf
        refine lv_iload_n hx hb d_S_look_25 rfl (lv_at hl 2 rfl) ?_
        by_cases hc0 : x2 = 0
        · have hf := (if_pos hc0).symm.trans hf
          refine lv_tableIn hx hb d_S_look_26 (tgt := 56) (by rw [hc0]; decide) (by rw [hc0]; decide) (by rw [hc0]; rfl) rfl ?_
          refine lv_aload_n hx hb d_S_look_56 rfl (lv_at hl 0 rfl) ?_
          refine zr_get (ci := 0) G hw 1 4 zi_0 rfl rfl rfl (by decide) zm_463 (fun _ h => h) (v := .ref (ad 10)) rfl d_S_look_57 ?_
          refine zr_get (ci := 3) G hw 10 1 zi_3 rfl rfl rfl (by decide) zm_490 (fun _ h => h) (v := .ref (ad 12)) rfl d_S_look_60 ?_
          refine lv_iload_n hx hb d_S_look_63 rfl (lv_at hl 1 rfl) ?_
          obtain ⟨hi4, hf⟩ := zq_gs hf
          refine zr_iald G hw 12 rfl rfl hi4 d_S_look_64 ?_
          exact zr_iret G hw hr hlocks hf hQ d_S_look_65
        have hf := (if_neg hc0).symm.trans hf
        by_cases hc1 : x2 = 1
        · have hf := (if_pos hc1).symm.trans hf
          refine lv_tableIn hx hb d_S_look_26 (tgt := 66) (by rw [hc1]; decide) (by rw [hc1]; decide) (by rw [hc1]; rfl) rfl ?_
          refine lv_aload_n hx hb d_S_look_66 rfl (lv_at hl 0 rfl) ?_
          refine zr_get (ci := 0) G hw 1 4 zi_0 rfl rfl rfl (by decide) zm_463 (fun _ h => h) (v := .ref (ad 10)) rfl d_S_look_67 ?_
          refine zr_get (ci := 3) G hw 10 3 zi_3 rfl rfl rfl (by decide) zm_491 (fun _ h => h) (v := .ref (ad 14)) rfl d_S_look_70 ?_
          refine lv_iload_n hx hb d_S_look_73 rfl (lv_at hl 1 rfl) ?_
          obtain ⟨hi5, hf⟩ := zq_gs hf
          refine zr_iald G hw 14 rfl rfl hi5 d_S_look_74 ?_
          exact zr_iret G hw hr hlocks hf hQ d_S_look_75
        have hf := (if_neg hc1).symm.trans hf
        by_cases hc2 : x2 = 2
        · have hf := (if_pos hc2).symm.trans hf
          refine lv_tableIn hx hb d_S_look_26 (tgt := 76) (by rw [hc2]; decide) (by rw [hc2]; decide) (by rw [hc2]; rfl) rfl ?_
          refine lv_aload_n hx hb d_S_look_76 rfl (lv_at hl 0 rfl) ?_
          refine zr_get (ci := 0) G hw 1 4 zi_0 rfl rfl rfl (by decide) zm_463 (fun _ h => h) (v := .ref (ad 10)) rfl d_S_look_77 ?_
          refine zr_get (ci := 3) G hw 10 2 zi_3 rfl rfl rfl (by decide) zm_492 (fun _ h => h) (v := .ref (ad 13)) rfl d_S_look_80 ?_
          refine lv_iload_n hx hb d_S_look_83 rfl (lv_at hl 1 rfl) ?_
          obtain ⟨hi6, hf⟩ := zq_gs hf
          refine zr_iald G hw 13 rfl rfl hi6 d_S_look_84 ?_
          exact zr_iret G hw hr hlocks hf hQ d_S_look_85
        have hf := (if_neg hc2).symm.trans hf
        by_cases hc3 : x2 = 3
        · have hf := (if_pos hc3).symm.trans hf
          refine lv_tableIn hx hb d_S_look_26 (tgt := 86) (by rw [hc3]; decide) (by rw [hc3]; decide) (by rw [hc3]; rfl) rfl ?_
          refine lv_aload_n hx hb d_S_look_86 rfl (lv_at hl 0 rfl) ?_
          refine zr_get (ci := 0) G hw 1 4 zi_0 rfl rfl rfl (by decide) zm_463 (fun _ h => h) (v := .ref (ad 10)) rfl d_S_look_87 ?_
          refine lv_iload_n hx hb d_S_look_90 rfl (lv_at hl 1 rfl) ?_
          refine lv_bipush (v := 32) hx hb d_S_look_91 (by decide) ?_
          obtain ⟨r8, σ7, hc9, hf⟩ := zq_cs hf
          refine zr_ci hw (zr_runV (rest := []) (ci := 3) (o := 10) G hw [.int x1, .int 32] (zc_States_cell hJ hc9) (cwV 2 hts (zs_gV zm_493 zm_146 zm_147 zm_39 zm_144) rfl rfl rfl (by decide +kernel) ⟨Nat.le_trans (by decide) hR1, Nat.le_trans (by decide) hR2⟩) rfl rfl rfl hl.1 (Nat.le_of_ble_eq_true rfl) d_S_look_93 ⟨Nat.zero_le _, Nat.zero_le _⟩) (fun H locs hw => ?_)
          exact zr_iret G hw hr hlocks hf hQ d_S_look_96
        have hf := (if_neg hc3).symm.trans hf
        refine lv_tableOut hx hb d_S_look_26 (tgt := 97) (by have g0 := zq_o1 (lo := 0) (by decide) hc0; have g1 := zq_o1 (lo := 1) (by decide) hc1; have g2 := zq_o1 (lo := 2) (by decide) hc2; have g3 := zq_o1 (lo := 3) (by decide) hc3; omega) rfl ?_
        refine lv_aload_n hx hb d_S_look_97 rfl (lv_at hl 0 rfl) ?_
        refine zr_get (ci := 0) G hw 1 4 zi_0 rfl rfl rfl (by decide) zm_463 (fun _ h => h) (v := .ref (ad 10)) rfl d_S_look_98 ?_
        refine lv_iload_n hx hb d_S_look_101 rfl (lv_at hl 1 rfl) ?_
        refine lv_bipush (v := 33) hx hb d_S_look_102 (by decide) ?_
        obtain ⟨r11, σ10, hc12, hf⟩ := zq_cs hf
        refine zr_ci hw (zr_runV (rest := []) (ci := 3) (o := 10) G hw [.int x1, .int 33] (zc_States_cell hJ hc12) (cwV 2 hts (zs_gV zm_493 zm_146 zm_147 zm_39 zm_144) rfl rfl rfl (by decide +kernel) ⟨Nat.le_trans (by decide) hR1, Nat.le_trans (by decide) hR2⟩) rfl rfl rfl hl.1 (Nat.le_of_ble_eq_true rfl) d_S_look_104 ⟨Nat.zero_le _, Nat.zero_le _⟩) (fun H locs hw => ?_)
        exact zr_iret G hw hr hlocks hf hQ d_S_look_107
      · have hf := (if_pos hc).symm.trans hf
        refine lv_bipush (v := (-2)) hx hb d_S_look_22 (by decide) ?_
        exact zr_iret G hw hr hlocks hf hQ d_S_look_24
    · have hf := (if_neg hc).symm.trans hf
      exact K9 σ H locs ls hf hw (lv_sub hl [] rfl)
/-! ScheduleCheck.value -/
def y_S_value : MethodName := ⟨"ScheduleCheck","value","(II)I"⟩
theorem d_S_value_0 : decode prog_1_method_10_code 0 = .ok (.aload_n 0, 1) := by decide +kernel
theorem d_S_value_1 : decode prog_1_method_10_code 1 = .ok (.getfield 30, 3) := by decide +kernel
theorem d_S_value_4 : decode prog_1_method_10_code 4 = .ok (.iload_n 1, 1) := by decide +kernel
theorem d_S_value_5 : decode prog_1_method_10_code 5 = .ok (.invokevirtual 105, 3) := by decide +kernel
theorem d_S_value_8 : decode prog_1_method_10_code 8 = .ok (.ifCond .eq 14, 3) := by decide +kernel
theorem d_S_value_11 : decode prog_1_method_10_code 11 = .ok (.aload_n 0, 1) := by decide +kernel
theorem d_S_value_12 : decode prog_1_method_10_code 12 = .ok (.getfield 37, 3) := by decide +kernel
theorem d_S_value_15 : decode prog_1_method_10_code 15 = .ok (.iload_n 2, 1) := by decide +kernel
theorem d_S_value_16 : decode prog_1_method_10_code 16 = .ok (.invokevirtual 123, 3) := by decide +kernel
theorem d_S_value_19 : decode prog_1_method_10_code 19 = .ok (.ifCond .ne 7, 3) := by decide +kernel
theorem d_S_value_22 : decode prog_1_method_10_code 22 = .ok (.sipush 1000, 3) := by decide +kernel
theorem d_S_value_25 : decode prog_1_method_10_code 25 = .ok (.ireturn, 1) := by decide +kernel
theorem d_S_value_26 : decode prog_1_method_10_code 26 = .ok (.aload_n 0, 1) := by decide +kernel
theorem d_S_value_27 : decode prog_1_method_10_code 27 = .ok (.getfield 30, 3) := by decide +kernel
theorem d_S_value_30 : decode prog_1_method_10_code 30 = .ok (.iload_n 1, 1) := by decide +kernel
theorem d_S_value_31 : decode prog_1_method_10_code 31 = .ok (.iload_n 2, 1) := by decide +kernel
theorem d_S_value_32 : decode prog_1_method_10_code 32 = .ok (.invokevirtual 119, 3) := by decide +kernel
theorem d_S_value_35 : decode prog_1_method_10_code 35 = .ok (.ireturn, 1) := by decide +kernel
def zf_S_value_22 (F : Nat)   (σ : zs_S) : Option (Int32 × zs_S) :=
  some (1000, σ)
def zf_S_value (F : Nat) (x1 : Int32) (x2 : Int32) (σ : zs_S) : Option (Int32 × zs_S) :=
  zq_c (zf_States_has F x1 σ) fun r2 σ1 =>
  if r2 = 0 then (
    zf_S_value_22 F σ1
  ) else (
    zq_q (zs_r σ1 1 6) fun q4 =>
    zq_g (zq_k 0 q4 15) <|
    zq_c (zf_Program_hasVariable F q4 x2 σ1) fun r6 σ5 =>
    if r6 = 0 then (
      zf_S_value_22 F σ5
    ) else (
      zq_c (zf_States_cell F x1 x2 σ5) fun r10 σ9 =>
      some (r10, σ9)
    )
  )
set_option maxHeartbeats 4000000 in
set_option maxRecDepth 100000 in
theorem zc_S_value {l : Launch} {D : va_G} {cA : Nat → ClassId} {ad : Nat → Nat} {A : Nat → Prop} {F : Nat} {x1 : Int32} {x2 : Int32} {σ : zs_S} {q : Int32 × zs_S} (hJ : zs_J ad) (hf : zf_S_value F x1 x2 σ = some q) : Met l y_S_value (.code y_S_value prog_1_method_10_code 3 (some .int) :: zd_ww) { frames := 1, cells := 0, slots := 0, locals := 22 } (va_Pc [.ref (ad 1), .int x1, .int x2] (zs_U 0 D cA ad A σ)) (zs_Qi 0 D cA ad A q) 0 0 A := by
  refine Met.ofW (cc := prog_1_method_10_code) (maxL := 3) (ret := (some .int)) (by decide) rfl ?_
  intro p e s m args below meth c s₁ B hml hv
  obtain ⟨hargs, hP, hK, hD, hZ⟩ := hv
  have G : zs_G 0 p s m args c prog_1_method_10_code 3 "ScheduleCheck" D cA ad A := ⟨⟨B.exec, B.bytes, hml, findClass_of_methodNamed B.named, fun w h => atoms_spec B.pre w (List.mem_cons_of_mem _ h)⟩, hK, hJ, hZ⟩
  have hw : zs_I 0 D cA ad A s σ s.heap [] := ⟨hP, hD, va_S.rf⟩
  have hx := G.1.1
  have hb := G.1.2.1
  have hown := G.1.2.2.2.1
  have hts := G.1.2.2.2.2
  have hr := B.returns
  have hlocks := B.notSynchronized
  have he : entryFrame m args 3 = F0 m 0 ((lg_sl [.ref (ad 1), .int x1, .int x2] ++ List.replicate (3 - (lg_sl [.ref (ad 1), .int x1, .int x2]).length) Slot.unset).toArray) [] := by rw [hargs]; exact lg_entry_eq m _ 3
  have hl := lv_entry [.ref (ad 1), .int x1, .int x2] (n := 3) (Nat.le_of_ble_eq_true rfl)
  rw [he]
  generalize (lg_sl [.ref (ad 1), .int x1, .int x2] ++ List.replicate (3 - (lg_sl [.ref (ad 1), .int x1, .int x2]).length) Slot.unset).toArray = ls at hl
  have hl : lv_has ls 3 [(0, .ref (ad 1)), (1, .int x1), (2, .int x2)] := hl
  obtain ⟨RR, hR⟩ : ∃ z, z = (headSpec (.code y_S_value prog_1_method_10_code 3 (some .int) :: zd_ww) { frames := 1, cells := 0, slots := 0, locals := 22 }).room := ⟨_, rfl⟩
  rw [← hR]
  obtain ⟨QQ, hQ⟩ : ∃ z, z = MQ below (zs_Qi 0 D cA ad A q) args s 0 0 A := ⟨_, rfl⟩
  rw [← hQ]
  have hR1 : 1 ≤ RR.frames := by rw [hR]; exact Nat.le_refl _
  have hR2 : 22 ≤ RR.locals := by rw [hR]; exact Nat.le_refl _
  generalize s.heap = H at hw ⊢
  generalize ([] : List Loc) = locs at hw ⊢
  have K22 : ∀ (σ : zs_S) (H : Heap) (locs : List Loc) (ls : Array Slot), zf_S_value_22 F σ = some q → zs_I 0 D cA ad A s σ H locs → lv_has ls 3 [] → W p l e RR s m args below meth c H locs 0 0 QQ (F0 m 22 ls []) := by
    intro   σ H locs ls hf hw hl
    unfold zf_S_value_22 at hf
    refine lv_sipush (v := 1000) hx hb d_S_value_22 (by decide) ?_
    exact zr_iret G hw hr hlocks hf hQ d_S_value_25
  unfold zf_S_value at hf
  refine lv_aload_n hx hb d_S_value_0 rfl (lv_at hl 0 rfl) ?_
  refine zr_get (ci := 0) G hw 1 4 zi_0 rfl rfl rfl (by decide) zm_463 (fun _ h => h) (v := .ref (ad 10)) rfl d_S_value_1 ?_
  refine lv_iload_n hx hb d_S_value_4 rfl (lv_at hl 1 rfl) ?_
  obtain ⟨r2, σ1, hc3, hf⟩ := zq_cs hf
  refine zr_ci hw (zr_runV (rest := []) (ci := 3) (o := 10) G hw [.int x1] (zc_States_has hJ hc3) (cwV 1 hts (zs_gV zm_487 zm_488 zm_489 zm_39 zm_486) rfl rfl rfl (by decide +kernel) ⟨Nat.le_trans (by decide) hR1, Nat.le_trans (by decide) hR2⟩) rfl rfl rfl hl.1 (Nat.le_of_ble_eq_true rfl) d_S_value_5 ⟨Nat.zero_le _, Nat.zero_le _⟩) (fun H locs hw => ?_)
  refine lv_if_eq hx hb d_S_value_8 (tgt := 22) rfl (fun hc => ?_) (fun hc => ?_)
  · have hf := (if_pos hc).symm.trans hf
    exact K22 σ1 H locs ls hf hw (lv_sub hl [] rfl)
  · have hf := (if_neg hc).symm.trans hf
    refine lv_aload_n hx hb d_S_value_11 rfl (lv_at hl 0 rfl) ?_
    obtain ⟨q4, e_q4, h_q4, hf⟩ := zq_qs hf
    refine zr_get (ci := 0) G hw 1 6 zi_0 rfl rfl rfl (by decide) zm_456 (fun _ h => h) (v := .ref (ad q4)) (zs_fr rfl e_q4 h_q4) d_S_value_12 ?_
    refine lv_iload_n hx hb d_S_value_15 rfl (lv_at hl 2 rfl) ?_
    obtain ⟨hs8, hf⟩ := zq_gs hf
    have hs8 := zq_ks hs8
    obtain ⟨r6, σ5, hc7, hf⟩ := zq_cs hf
    refine zr_ci hw (zr_runV (rest := []) (ci := 5) (o := q4) G hw [.int x2] (zc_Program_hasVariable hJ hc7) (cwV 1 hts (zs_gV zm_495 zm_496 zm_497 zm_116 zm_494) rfl rfl rfl (by decide +kernel) ⟨Nat.le_trans (by decide) hR1, Nat.le_trans (by decide) hR2⟩) hs8 rfl rfl hl.1 (Nat.le_of_ble_eq_true rfl) d_S_value_16 ⟨Nat.zero_le _, Nat.zero_le _⟩) (fun H locs hw => ?_)
    refine lv_if_ne hx hb d_S_value_19 (tgt := 26) rfl (fun hc => ?_) (fun hc => ?_)
    · have hf := (if_neg hc).symm.trans hf
      refine lv_aload_n hx hb d_S_value_26 rfl (lv_at hl 0 rfl) ?_
      refine zr_get (ci := 0) G hw 1 4 zi_0 rfl rfl rfl (by decide) zm_463 (fun _ h => h) (v := .ref (ad 10)) rfl d_S_value_27 ?_
      refine lv_iload_n hx hb d_S_value_30 rfl (lv_at hl 1 rfl) ?_
      refine lv_iload_n hx hb d_S_value_31 rfl (lv_at hl 2 rfl) ?_
      obtain ⟨r10, σ9, hc11, hf⟩ := zq_cs hf
      refine zr_ci hw (zr_runV (rest := []) (ci := 3) (o := 10) G hw [.int x1, .int x2] (zc_States_cell hJ hc11) (cwV 2 hts (zs_gV zm_493 zm_146 zm_147 zm_39 zm_144) rfl rfl rfl (by decide +kernel) ⟨Nat.le_trans (by decide) hR1, Nat.le_trans (by decide) hR2⟩) rfl rfl rfl hl.1 (Nat.le_of_ble_eq_true rfl) d_S_value_32 ⟨Nat.zero_le _, Nat.zero_le _⟩) (fun H locs hw => ?_)
      exact zr_iret G hw hr hlocks hf hQ d_S_value_35
    · have hf := (if_pos hc).symm.trans hf
      exact K22 σ5 H locs ls hf hw (lv_sub hl [] rfl)
/-! ScheduleCheck.local -/
def y_S_local : MethodName := ⟨"ScheduleCheck","local","(III)I"⟩
theorem d_S_local_0 : decode prog_1_method_11_code 0 = .ok (.aload_n 0, 1) := by decide +kernel
theorem d_S_local_1 : decode prog_1_method_11_code 1 = .ok (.getfield 30, 3) := by decide +kernel
theorem d_S_local_4 : decode prog_1_method_11_code 4 = .ok (.iload_n 1, 1) := by decide +kernel
theorem d_S_local_5 : decode prog_1_method_11_code 5 = .ok (.invokevirtual 105, 3) := by decide +kernel
theorem d_S_local_8 : decode prog_1_method_11_code 8 = .ok (.ifCond .eq 14, 3) := by decide +kernel
theorem d_S_local_11 : decode prog_1_method_11_code 11 = .ok (.aload_n 0, 1) := by decide +kernel
theorem d_S_local_12 : decode prog_1_method_11_code 12 = .ok (.getfield 37, 3) := by decide +kernel
theorem d_S_local_15 : decode prog_1_method_11_code 15 = .ok (.iload_n 2, 1) := by decide +kernel
theorem d_S_local_16 : decode prog_1_method_11_code 16 = .ok (.invokevirtual 126, 3) := by decide +kernel
theorem d_S_local_19 : decode prog_1_method_11_code 19 = .ok (.ifCond .ne 7, 3) := by decide +kernel
theorem d_S_local_22 : decode prog_1_method_11_code 22 = .ok (.sipush 1000, 3) := by decide +kernel
theorem d_S_local_25 : decode prog_1_method_11_code 25 = .ok (.ireturn, 1) := by decide +kernel
theorem d_S_local_26 : decode prog_1_method_11_code 26 = .ok (.iload_n 3, 1) := by decide +kernel
theorem d_S_local_27 : decode prog_1_method_11_code 27 = .ok (.ifCond .lt 16, 3) := by decide +kernel
theorem d_S_local_30 : decode prog_1_method_11_code 30 = .ok (.iload_n 3, 1) := by decide +kernel
theorem d_S_local_31 : decode prog_1_method_11_code 31 = .ok (.aload_n 0, 1) := by decide +kernel
theorem d_S_local_32 : decode prog_1_method_11_code 32 = .ok (.getfield 37, 3) := by decide +kernel
theorem d_S_local_35 : decode prog_1_method_11_code 35 = .ok (.getfield 129, 3) := by decide +kernel
theorem d_S_local_38 : decode prog_1_method_11_code 38 = .ok (.iload_n 2, 1) := by decide +kernel
theorem d_S_local_39 : decode prog_1_method_11_code 39 = .ok (.iaload, 1) := by decide +kernel
theorem d_S_local_40 : decode prog_1_method_11_code 40 = .ok (.if_icmp .lt 7, 3) := by decide +kernel
theorem d_S_local_43 : decode prog_1_method_11_code 43 = .ok (.sipush 1000, 3) := by decide +kernel
theorem d_S_local_46 : decode prog_1_method_11_code 46 = .ok (.ireturn, 1) := by decide +kernel
theorem d_S_local_47 : decode prog_1_method_11_code 47 = .ok (.aload_n 0, 1) := by decide +kernel
theorem d_S_local_48 : decode prog_1_method_11_code 48 = .ok (.getfield 30, 3) := by decide +kernel
theorem d_S_local_51 : decode prog_1_method_11_code 51 = .ok (.iload_n 1, 1) := by decide +kernel
theorem d_S_local_52 : decode prog_1_method_11_code 52 = .ok (.iload_n 2, 1) := by decide +kernel
theorem d_S_local_53 : decode prog_1_method_11_code 53 = .ok (.iload_n 3, 1) := by decide +kernel
theorem d_S_local_54 : decode prog_1_method_11_code 54 = .ok (.invokestatic 132, 3) := by decide +kernel
theorem d_S_local_57 : decode prog_1_method_11_code 57 = .ok (.invokevirtual 119, 3) := by decide +kernel
theorem d_S_local_60 : decode prog_1_method_11_code 60 = .ok (.ireturn, 1) := by decide +kernel
def zf_S_local_43 (F : Nat)   (σ : zs_S) : Option (Int32 × zs_S) :=
  some (1000, σ)
def zf_S_local_22 (F : Nat)   (σ : zs_S) : Option (Int32 × zs_S) :=
  some (1000, σ)
def zf_S_local (F : Nat) (x1 : Int32) (x2 : Int32) (x3 : Int32) (σ : zs_S) : Option (Int32 × zs_S) :=
  zq_c (zf_States_has F x1 σ) fun r2 σ1 =>
  if r2 = 0 then (
    zf_S_local_22 F σ1
  ) else (
    zq_q (zs_r σ1 1 6) fun q4 =>
    zq_g (zq_k 0 q4 15) <|
    zq_c (zf_Program_hasThread F q4 x2 σ1) fun r6 σ5 =>
    if r6 = 0 then (
      zf_S_local_22 F σ5
    ) else (
      if x3 < 0 then (
        zf_S_local_43 F σ5
      ) else (
        zq_q (zs_r σ5 1 6) fun q9 =>
        zq_g (zq_k 0 q9 15) <|
        zq_q (zd_rf 0 q9 5) fun q11 =>
        zq_g (zq_k 0 q11 0) <|
        zq_g (zq_b x2 (zd_sh 0 q11).2) <|
        if x3 < (zs_i σ5 q11 (x2).toNatClampNeg) then (
          zq_c (zf_S_localCell F x2 x3 σ5) fun r15 σ14 =>
          zq_c (zf_States_cell F x1 r15 σ14) fun r18 σ17 =>
          some (r18, σ17)
        ) else (
          zf_S_local_43 F σ5
        )
      )
    )
  )
set_option maxHeartbeats 4000000 in
set_option maxRecDepth 100000 in
theorem zc_S_local {l : Launch} {D : va_G} {cA : Nat → ClassId} {ad : Nat → Nat} {A : Nat → Prop} {F : Nat} {x1 : Int32} {x2 : Int32} {x3 : Int32} {σ : zs_S} {q : Int32 × zs_S} (hJ : zs_J ad) (hf : zf_S_local F x1 x2 x3 σ = some q) : Met l y_S_local (.code y_S_local prog_1_method_11_code 4 (some .int) :: zd_ww) { frames := 1, cells := 0, slots := 0, locals := 22 } (va_Pc [.ref (ad 1), .int x1, .int x2, .int x3] (zs_U 0 D cA ad A σ)) (zs_Qi 0 D cA ad A q) 0 0 A := by
  refine Met.ofW (cc := prog_1_method_11_code) (maxL := 4) (ret := (some .int)) (by decide) rfl ?_
  intro p e s m args below meth c s₁ B hml hv
  obtain ⟨hargs, hP, hK, hD, hZ⟩ := hv
  have G : zs_G 0 p s m args c prog_1_method_11_code 4 "ScheduleCheck" D cA ad A := ⟨⟨B.exec, B.bytes, hml, findClass_of_methodNamed B.named, fun w h => atoms_spec B.pre w (List.mem_cons_of_mem _ h)⟩, hK, hJ, hZ⟩
  have hw : zs_I 0 D cA ad A s σ s.heap [] := ⟨hP, hD, va_S.rf⟩
  have hx := G.1.1
  have hb := G.1.2.1
  have hown := G.1.2.2.2.1
  have hts := G.1.2.2.2.2
  have hr := B.returns
  have hlocks := B.notSynchronized
  have he : entryFrame m args 4 = F0 m 0 ((lg_sl [.ref (ad 1), .int x1, .int x2, .int x3] ++ List.replicate (4 - (lg_sl [.ref (ad 1), .int x1, .int x2, .int x3]).length) Slot.unset).toArray) [] := by rw [hargs]; exact lg_entry_eq m _ 4
  have hl := lv_entry [.ref (ad 1), .int x1, .int x2, .int x3] (n := 4) (Nat.le_of_ble_eq_true rfl)
  rw [he]
  generalize (lg_sl [.ref (ad 1), .int x1, .int x2, .int x3] ++ List.replicate (4 - (lg_sl [.ref (ad 1), .int x1, .int x2, .int x3]).length) Slot.unset).toArray = ls at hl
  have hl : lv_has ls 4 [(0, .ref (ad 1)), (1, .int x1), (2, .int x2), (3, .int x3)] := hl
  obtain ⟨RR, hR⟩ : ∃ z, z = (headSpec (.code y_S_local prog_1_method_11_code 4 (some .int) :: zd_ww) { frames := 1, cells := 0, slots := 0, locals := 22 }).room := ⟨_, rfl⟩
  rw [← hR]
  obtain ⟨QQ, hQ⟩ : ∃ z, z = MQ below (zs_Qi 0 D cA ad A q) args s 0 0 A := ⟨_, rfl⟩
  rw [← hQ]
  have hR1 : 1 ≤ RR.frames := by rw [hR]; exact Nat.le_refl _
  have hR2 : 22 ≤ RR.locals := by rw [hR]; exact Nat.le_refl _
  generalize s.heap = H at hw ⊢
  generalize ([] : List Loc) = locs at hw ⊢
  have K43 : ∀ (σ : zs_S) (H : Heap) (locs : List Loc) (ls : Array Slot), zf_S_local_43 F σ = some q → zs_I 0 D cA ad A s σ H locs → lv_has ls 4 [] → W p l e RR s m args below meth c H locs 0 0 QQ (F0 m 43 ls []) := by
    intro   σ H locs ls hf hw hl
    unfold zf_S_local_43 at hf
    refine lv_sipush (v := 1000) hx hb d_S_local_43 (by decide) ?_
    exact zr_iret G hw hr hlocks hf hQ d_S_local_46
  have K22 : ∀ (σ : zs_S) (H : Heap) (locs : List Loc) (ls : Array Slot), zf_S_local_22 F σ = some q → zs_I 0 D cA ad A s σ H locs → lv_has ls 4 [] → W p l e RR s m args below meth c H locs 0 0 QQ (F0 m 22 ls []) := by
    intro   σ H locs ls hf hw hl
    unfold zf_S_local_22 at hf
    refine lv_sipush (v := 1000) hx hb d_S_local_22 (by decide) ?_
    exact zr_iret G hw hr hlocks hf hQ d_S_local_25
  unfold zf_S_local at hf
  refine lv_aload_n hx hb d_S_local_0 rfl (lv_at hl 0 rfl) ?_
  refine zr_get (ci := 0) G hw 1 4 zi_0 rfl rfl rfl (by decide) zm_463 (fun _ h => h) (v := .ref (ad 10)) rfl d_S_local_1 ?_
  refine lv_iload_n hx hb d_S_local_4 rfl (lv_at hl 1 rfl) ?_
  obtain ⟨r2, σ1, hc3, hf⟩ := zq_cs hf
  refine zr_ci hw (zr_runV (rest := []) (ci := 3) (o := 10) G hw [.int x1] (zc_States_has hJ hc3) (cwV 1 hts (zs_gV zm_487 zm_488 zm_489 zm_39 zm_486) rfl rfl rfl (by decide +kernel) ⟨Nat.le_trans (by decide) hR1, Nat.le_trans (by decide) hR2⟩) rfl rfl rfl hl.1 (Nat.le_of_ble_eq_true rfl) d_S_local_5 ⟨Nat.zero_le _, Nat.zero_le _⟩) (fun H locs hw => ?_)
  refine lv_if_eq hx hb d_S_local_8 (tgt := 22) rfl (fun hc => ?_) (fun hc => ?_)
  · have hf := (if_pos hc).symm.trans hf
    exact K22 σ1 H locs ls hf hw (lv_sub hl [] rfl)
  · have hf := (if_neg hc).symm.trans hf
    refine lv_aload_n hx hb d_S_local_11 rfl (lv_at hl 0 rfl) ?_
    obtain ⟨q4, e_q4, h_q4, hf⟩ := zq_qs hf
    refine zr_get (ci := 0) G hw 1 6 zi_0 rfl rfl rfl (by decide) zm_456 (fun _ h => h) (v := .ref (ad q4)) (zs_fr rfl e_q4 h_q4) d_S_local_12 ?_
    refine lv_iload_n hx hb d_S_local_15 rfl (lv_at hl 2 rfl) ?_
    obtain ⟨hs8, hf⟩ := zq_gs hf
    have hs8 := zq_ks hs8
    obtain ⟨r6, σ5, hc7, hf⟩ := zq_cs hf
    refine zr_ci hw (zr_runV (rest := []) (ci := 5) (o := q4) G hw [.int x2] (zc_Program_hasThread hJ hc7) (cwV 1 hts (zs_gV zm_499 zm_500 zm_501 zm_116 zm_498) rfl rfl rfl (by decide +kernel) ⟨Nat.le_trans (by decide) hR1, Nat.le_trans (by decide) hR2⟩) hs8 rfl rfl hl.1 (Nat.le_of_ble_eq_true rfl) d_S_local_16 ⟨Nat.zero_le _, Nat.zero_le _⟩) (fun H locs hw => ?_)
    refine lv_if_ne hx hb d_S_local_19 (tgt := 26) rfl (fun hc => ?_) (fun hc => ?_)
    · have hf := (if_neg hc).symm.trans hf
      refine lv_iload_n hx hb d_S_local_26 rfl (lv_at hl 3 rfl) ?_
      refine lv_if_lt hx hb d_S_local_27 (tgt := 43) rfl (fun hc => ?_) (fun hc => ?_)
      · have hf := (if_pos hc).symm.trans hf
        exact K43 σ5 H locs ls hf hw (lv_sub hl [] rfl)
      · have hf := (if_neg hc).symm.trans hf
        refine lv_iload_n hx hb d_S_local_30 rfl (lv_at hl 3 rfl) ?_
        refine lv_aload_n hx hb d_S_local_31 rfl (lv_at hl 0 rfl) ?_
        obtain ⟨q9, e_q9, h_q9, hf⟩ := zq_qs hf
        refine zr_get (ci := 0) G hw 1 6 zi_0 rfl rfl rfl (by decide) zm_456 (fun _ h => h) (v := .ref (ad q9)) (zs_fr rfl e_q9 h_q9) d_S_local_32 ?_
        obtain ⟨hs10, hf⟩ := zq_gs hf
        have hs10 := zq_ks hs10
        obtain ⟨q11, e_q11, h_q11, hf⟩ := zq_qs hf
        refine zr_get (ci := 5) G hw q9 5 zi_5 hs10 rfl rfl (by decide) zm_502 (fun _ h => h) (v := .ref (ad q11)) (zs_fs rfl e_q11 h_q11) d_S_local_35 ?_
        refine lv_iload_n hx hb d_S_local_38 rfl (lv_at hl 2 rfl) ?_
        obtain ⟨hs12, hf⟩ := zq_gs hf
        have hs12 := zq_ks hs12
        obtain ⟨hi13, hf⟩ := zq_gs hf
        refine zr_iald G hw q11 hs12 rfl hi13 d_S_local_39 ?_
        refine lv_icmp_lt hx hb d_S_local_40 (tgt := 47) rfl (fun hc => ?_) (fun hc => ?_)
        · have hf := (if_pos hc).symm.trans hf
          refine lv_aload_n hx hb d_S_local_47 rfl (lv_at hl 0 rfl) ?_
          refine zr_get (ci := 0) G hw 1 4 zi_0 rfl rfl rfl (by decide) zm_463 (fun _ h => h) (v := .ref (ad 10)) rfl d_S_local_48 ?_
          refine lv_iload_n hx hb d_S_local_51 rfl (lv_at hl 1 rfl) ?_
          refine lv_iload_n hx hb d_S_local_52 rfl (lv_at hl 2 rfl) ?_
          refine lv_iload_n hx hb d_S_local_53 rfl (lv_at hl 3 rfl) ?_
          obtain ⟨r15, σ14, hc16, hf⟩ := zq_cs hf
          refine zr_ci hw (zr_runS (rest := [.int x1, .ref (ad 10)]) G hw [.int x2, .int x3] (zc_S_localCell hJ hc16) (va_cwS 2 hts (zs_gS zm_503 zm_317 zm_316 zm_315) rfl rfl rfl (by decide +kernel) ⟨Nat.le_trans (by decide) hR1, Nat.le_trans (by decide) hR2⟩) rfl hl.1 (Nat.le_of_ble_eq_true rfl) d_S_local_54 ⟨Nat.zero_le _, Nat.zero_le _⟩) (fun H locs hw => ?_)
          obtain ⟨r18, σ17, hc19, hf⟩ := zq_cs hf
          refine zr_ci hw (zr_runV (rest := []) (ci := 3) (o := 10) G hw [.int x1, .int r15] (zc_States_cell hJ hc19) (cwV 2 hts (zs_gV zm_493 zm_146 zm_147 zm_39 zm_144) rfl rfl rfl (by decide +kernel) ⟨Nat.le_trans (by decide) hR1, Nat.le_trans (by decide) hR2⟩) rfl rfl rfl hl.1 (Nat.le_of_ble_eq_true rfl) d_S_local_57 ⟨Nat.zero_le _, Nat.zero_le _⟩) (fun H locs hw => ?_)
          exact zr_iret G hw hr hlocks hf hQ d_S_local_60
        · have hf := (if_neg hc).symm.trans hf
          exact K43 σ5 H locs ls hf hw (lv_sub hl [] rfl)
    · have hf := (if_pos hc).symm.trans hf
      exact K22 σ5 H locs ls hf hw (lv_sub hl [] rfl)
/-! ScheduleCheck.place -/
def y_S_place : MethodName := ⟨"ScheduleCheck","place","(II)I"⟩
theorem d_S_place_0 : decode prog_1_method_12_code 0 = .ok (.aload_n 0, 1) := by decide +kernel
theorem d_S_place_1 : decode prog_1_method_12_code 1 = .ok (.getfield 30, 3) := by decide +kernel
theorem d_S_place_4 : decode prog_1_method_12_code 4 = .ok (.iload_n 1, 1) := by decide +kernel
theorem d_S_place_5 : decode prog_1_method_12_code 5 = .ok (.invokevirtual 105, 3) := by decide +kernel
theorem d_S_place_8 : decode prog_1_method_12_code 8 = .ok (.ifCond .eq 14, 3) := by decide +kernel
theorem d_S_place_11 : decode prog_1_method_12_code 11 = .ok (.aload_n 0, 1) := by decide +kernel
theorem d_S_place_12 : decode prog_1_method_12_code 12 = .ok (.getfield 37, 3) := by decide +kernel
theorem d_S_place_15 : decode prog_1_method_12_code 15 = .ok (.iload_n 2, 1) := by decide +kernel
theorem d_S_place_16 : decode prog_1_method_12_code 16 = .ok (.invokevirtual 126, 3) := by decide +kernel
theorem d_S_place_19 : decode prog_1_method_12_code 19 = .ok (.ifCond .ne 6, 3) := by decide +kernel
theorem d_S_place_22 : decode prog_1_method_12_code 22 = .ok (.bipush (-2), 2) := by decide +kernel
theorem d_S_place_24 : decode prog_1_method_12_code 24 = .ok (.ireturn, 1) := by decide +kernel
theorem d_S_place_25 : decode prog_1_method_12_code 25 = .ok (.aload_n 0, 1) := by decide +kernel
theorem d_S_place_26 : decode prog_1_method_12_code 26 = .ok (.getfield 30, 3) := by decide +kernel
theorem d_S_place_29 : decode prog_1_method_12_code 29 = .ok (.iload_n 1, 1) := by decide +kernel
theorem d_S_place_30 : decode prog_1_method_12_code 30 = .ok (.bipush 12, 2) := by decide +kernel
theorem d_S_place_32 : decode prog_1_method_12_code 32 = .ok (.iload_n 2, 1) := by decide +kernel
theorem d_S_place_33 : decode prog_1_method_12_code 33 = .ok (.iadd, 1) := by decide +kernel
theorem d_S_place_34 : decode prog_1_method_12_code 34 = .ok (.invokevirtual 119, 3) := by decide +kernel
theorem d_S_place_37 : decode prog_1_method_12_code 37 = .ok (.ireturn, 1) := by decide +kernel
def zf_S_place_22 (F : Nat)   (σ : zs_S) : Option (Int32 × zs_S) :=
  some ((-2), σ)
def zf_S_place (F : Nat) (x1 : Int32) (x2 : Int32) (σ : zs_S) : Option (Int32 × zs_S) :=
  zq_c (zf_States_has F x1 σ) fun r2 σ1 =>
  if r2 = 0 then (
    zf_S_place_22 F σ1
  ) else (
    zq_q (zs_r σ1 1 6) fun q4 =>
    zq_g (zq_k 0 q4 15) <|
    zq_c (zf_Program_hasThread F q4 x2 σ1) fun r6 σ5 =>
    if r6 = 0 then (
      zf_S_place_22 F σ5
    ) else (
      zq_c (zf_States_cell F x1 (12 + x2) σ5) fun r10 σ9 =>
      some (r10, σ9)
    )
  )
set_option maxHeartbeats 4000000 in
set_option maxRecDepth 100000 in
theorem zc_S_place {l : Launch} {D : va_G} {cA : Nat → ClassId} {ad : Nat → Nat} {A : Nat → Prop} {F : Nat} {x1 : Int32} {x2 : Int32} {σ : zs_S} {q : Int32 × zs_S} (hJ : zs_J ad) (hf : zf_S_place F x1 x2 σ = some q) : Met l y_S_place (.code y_S_place prog_1_method_12_code 3 (some .int) :: zd_ww) { frames := 1, cells := 0, slots := 0, locals := 22 } (va_Pc [.ref (ad 1), .int x1, .int x2] (zs_U 0 D cA ad A σ)) (zs_Qi 0 D cA ad A q) 0 0 A := by
  refine Met.ofW (cc := prog_1_method_12_code) (maxL := 3) (ret := (some .int)) (by decide) rfl ?_
  intro p e s m args below meth c s₁ B hml hv
  obtain ⟨hargs, hP, hK, hD, hZ⟩ := hv
  have G : zs_G 0 p s m args c prog_1_method_12_code 3 "ScheduleCheck" D cA ad A := ⟨⟨B.exec, B.bytes, hml, findClass_of_methodNamed B.named, fun w h => atoms_spec B.pre w (List.mem_cons_of_mem _ h)⟩, hK, hJ, hZ⟩
  have hw : zs_I 0 D cA ad A s σ s.heap [] := ⟨hP, hD, va_S.rf⟩
  have hx := G.1.1
  have hb := G.1.2.1
  have hown := G.1.2.2.2.1
  have hts := G.1.2.2.2.2
  have hr := B.returns
  have hlocks := B.notSynchronized
  have he : entryFrame m args 3 = F0 m 0 ((lg_sl [.ref (ad 1), .int x1, .int x2] ++ List.replicate (3 - (lg_sl [.ref (ad 1), .int x1, .int x2]).length) Slot.unset).toArray) [] := by rw [hargs]; exact lg_entry_eq m _ 3
  have hl := lv_entry [.ref (ad 1), .int x1, .int x2] (n := 3) (Nat.le_of_ble_eq_true rfl)
  rw [he]
  generalize (lg_sl [.ref (ad 1), .int x1, .int x2] ++ List.replicate (3 - (lg_sl [.ref (ad 1), .int x1, .int x2]).length) Slot.unset).toArray = ls at hl
  have hl : lv_has ls 3 [(0, .ref (ad 1)), (1, .int x1), (2, .int x2)] := hl
  obtain ⟨RR, hR⟩ : ∃ z, z = (headSpec (.code y_S_place prog_1_method_12_code 3 (some .int) :: zd_ww) { frames := 1, cells := 0, slots := 0, locals := 22 }).room := ⟨_, rfl⟩
  rw [← hR]
  obtain ⟨QQ, hQ⟩ : ∃ z, z = MQ below (zs_Qi 0 D cA ad A q) args s 0 0 A := ⟨_, rfl⟩
  rw [← hQ]
  have hR1 : 1 ≤ RR.frames := by rw [hR]; exact Nat.le_refl _
  have hR2 : 22 ≤ RR.locals := by rw [hR]; exact Nat.le_refl _
  generalize s.heap = H at hw ⊢
  generalize ([] : List Loc) = locs at hw ⊢
  have K22 : ∀ (σ : zs_S) (H : Heap) (locs : List Loc) (ls : Array Slot), zf_S_place_22 F σ = some q → zs_I 0 D cA ad A s σ H locs → lv_has ls 3 [] → W p l e RR s m args below meth c H locs 0 0 QQ (F0 m 22 ls []) := by
    intro   σ H locs ls hf hw hl
    unfold zf_S_place_22 at hf
    refine lv_bipush (v := (-2)) hx hb d_S_place_22 (by decide) ?_
    exact zr_iret G hw hr hlocks hf hQ d_S_place_24
  unfold zf_S_place at hf
  refine lv_aload_n hx hb d_S_place_0 rfl (lv_at hl 0 rfl) ?_
  refine zr_get (ci := 0) G hw 1 4 zi_0 rfl rfl rfl (by decide) zm_463 (fun _ h => h) (v := .ref (ad 10)) rfl d_S_place_1 ?_
  refine lv_iload_n hx hb d_S_place_4 rfl (lv_at hl 1 rfl) ?_
  obtain ⟨r2, σ1, hc3, hf⟩ := zq_cs hf
  refine zr_ci hw (zr_runV (rest := []) (ci := 3) (o := 10) G hw [.int x1] (zc_States_has hJ hc3) (cwV 1 hts (zs_gV zm_487 zm_488 zm_489 zm_39 zm_486) rfl rfl rfl (by decide +kernel) ⟨Nat.le_trans (by decide) hR1, Nat.le_trans (by decide) hR2⟩) rfl rfl rfl hl.1 (Nat.le_of_ble_eq_true rfl) d_S_place_5 ⟨Nat.zero_le _, Nat.zero_le _⟩) (fun H locs hw => ?_)
  refine lv_if_eq hx hb d_S_place_8 (tgt := 22) rfl (fun hc => ?_) (fun hc => ?_)
  · have hf := (if_pos hc).symm.trans hf
    exact K22 σ1 H locs ls hf hw (lv_sub hl [] rfl)
  · have hf := (if_neg hc).symm.trans hf
    refine lv_aload_n hx hb d_S_place_11 rfl (lv_at hl 0 rfl) ?_
    obtain ⟨q4, e_q4, h_q4, hf⟩ := zq_qs hf
    refine zr_get (ci := 0) G hw 1 6 zi_0 rfl rfl rfl (by decide) zm_456 (fun _ h => h) (v := .ref (ad q4)) (zs_fr rfl e_q4 h_q4) d_S_place_12 ?_
    refine lv_iload_n hx hb d_S_place_15 rfl (lv_at hl 2 rfl) ?_
    obtain ⟨hs8, hf⟩ := zq_gs hf
    have hs8 := zq_ks hs8
    obtain ⟨r6, σ5, hc7, hf⟩ := zq_cs hf
    refine zr_ci hw (zr_runV (rest := []) (ci := 5) (o := q4) G hw [.int x2] (zc_Program_hasThread hJ hc7) (cwV 1 hts (zs_gV zm_499 zm_500 zm_501 zm_116 zm_498) rfl rfl rfl (by decide +kernel) ⟨Nat.le_trans (by decide) hR1, Nat.le_trans (by decide) hR2⟩) hs8 rfl rfl hl.1 (Nat.le_of_ble_eq_true rfl) d_S_place_16 ⟨Nat.zero_le _, Nat.zero_le _⟩) (fun H locs hw => ?_)
    refine lv_if_ne hx hb d_S_place_19 (tgt := 25) rfl (fun hc => ?_) (fun hc => ?_)
    · have hf := (if_neg hc).symm.trans hf
      refine lv_aload_n hx hb d_S_place_25 rfl (lv_at hl 0 rfl) ?_
      refine zr_get (ci := 0) G hw 1 4 zi_0 rfl rfl rfl (by decide) zm_463 (fun _ h => h) (v := .ref (ad 10)) rfl d_S_place_26 ?_
      refine lv_iload_n hx hb d_S_place_29 rfl (lv_at hl 1 rfl) ?_
      refine lv_bipush (v := 12) hx hb d_S_place_30 (by decide) ?_
      refine lv_iload_n hx hb d_S_place_32 rfl (lv_at hl 2 rfl) ?_
      refine lv_iadd hx hb d_S_place_33 ?_
      obtain ⟨r10, σ9, hc11, hf⟩ := zq_cs hf
      refine zr_ci hw (zr_runV (rest := []) (ci := 3) (o := 10) G hw [.int x1, .int (12 + x2)] (zc_States_cell hJ hc11) (cwV 2 hts (zs_gV zm_493 zm_146 zm_147 zm_39 zm_144) rfl rfl rfl (by decide +kernel) ⟨Nat.le_trans (by decide) hR1, Nat.le_trans (by decide) hR2⟩) rfl rfl rfl hl.1 (Nat.le_of_ble_eq_true rfl) d_S_place_34 ⟨Nat.zero_le _, Nat.zero_le _⟩) (fun H locs hw => ?_)
      exact zr_iret G hw hr hlocks hf hQ d_S_place_37
    · have hf := (if_pos hc).symm.trans hf
      exact K22 σ5 H locs ls hf hw (lv_sub hl [] rfl)
/-! ScheduleCheck.owner -/
def y_S_owner : MethodName := ⟨"ScheduleCheck","owner","(II)I"⟩
theorem d_S_owner_0 : decode prog_1_method_13_code 0 = .ok (.aload_n 0, 1) := by decide +kernel
theorem d_S_owner_1 : decode prog_1_method_13_code 1 = .ok (.getfield 30, 3) := by decide +kernel
theorem d_S_owner_4 : decode prog_1_method_13_code 4 = .ok (.iload_n 1, 1) := by decide +kernel
theorem d_S_owner_5 : decode prog_1_method_13_code 5 = .ok (.invokevirtual 105, 3) := by decide +kernel
theorem d_S_owner_8 : decode prog_1_method_13_code 8 = .ok (.ifCond .eq 18, 3) := by decide +kernel
theorem d_S_owner_11 : decode prog_1_method_13_code 11 = .ok (.iload_n 2, 1) := by decide +kernel
theorem d_S_owner_12 : decode prog_1_method_13_code 12 = .ok (.ifCond .lt 14, 3) := by decide +kernel
theorem d_S_owner_15 : decode prog_1_method_13_code 15 = .ok (.iload_n 2, 1) := by decide +kernel
theorem d_S_owner_16 : decode prog_1_method_13_code 16 = .ok (.aload_n 0, 1) := by decide +kernel
theorem d_S_owner_17 : decode prog_1_method_13_code 17 = .ok (.getfield 37, 3) := by decide +kernel
theorem d_S_owner_20 : decode prog_1_method_13_code 20 = .ok (.getfield 97, 3) := by decide +kernel
theorem d_S_owner_23 : decode prog_1_method_13_code 23 = .ok (.if_icmp .lt 6, 3) := by decide +kernel
theorem d_S_owner_26 : decode prog_1_method_13_code 26 = .ok (.bipush (-2), 2) := by decide +kernel
theorem d_S_owner_28 : decode prog_1_method_13_code 28 = .ok (.ireturn, 1) := by decide +kernel
theorem d_S_owner_29 : decode prog_1_method_13_code 29 = .ok (.aload_n 0, 1) := by decide +kernel
theorem d_S_owner_30 : decode prog_1_method_13_code 30 = .ok (.getfield 30, 3) := by decide +kernel
theorem d_S_owner_33 : decode prog_1_method_13_code 33 = .ok (.iload_n 1, 1) := by decide +kernel
theorem d_S_owner_34 : decode prog_1_method_13_code 34 = .ok (.bipush 8, 2) := by decide +kernel
theorem d_S_owner_36 : decode prog_1_method_13_code 36 = .ok (.iload_n 2, 1) := by decide +kernel
theorem d_S_owner_37 : decode prog_1_method_13_code 37 = .ok (.iadd, 1) := by decide +kernel
theorem d_S_owner_38 : decode prog_1_method_13_code 38 = .ok (.invokevirtual 119, 3) := by decide +kernel
theorem d_S_owner_41 : decode prog_1_method_13_code 41 = .ok (.ireturn, 1) := by decide +kernel
def zf_S_owner_26 (F : Nat)   (σ : zs_S) : Option (Int32 × zs_S) :=
  some ((-2), σ)
def zf_S_owner (F : Nat) (x1 : Int32) (x2 : Int32) (σ : zs_S) : Option (Int32 × zs_S) :=
  zq_c (zf_States_has F x1 σ) fun r2 σ1 =>
  if r2 = 0 then (
    zf_S_owner_26 F σ1
  ) else (
    if x2 < 0 then (
      zf_S_owner_26 F σ1
    ) else (
      zq_q (zs_r σ1 1 6) fun q4 =>
      zq_g (zq_k 0 q4 15) <|
      if x2 < (zs_i σ1 q4 1) then (
        zq_c (zf_States_cell F x1 (8 + x2) σ1) fun r7 σ6 =>
        some (r7, σ6)
      ) else (
        zf_S_owner_26 F σ1
      )
    )
  )
set_option maxHeartbeats 4000000 in
set_option maxRecDepth 100000 in
theorem zc_S_owner {l : Launch} {D : va_G} {cA : Nat → ClassId} {ad : Nat → Nat} {A : Nat → Prop} {F : Nat} {x1 : Int32} {x2 : Int32} {σ : zs_S} {q : Int32 × zs_S} (hJ : zs_J ad) (hf : zf_S_owner F x1 x2 σ = some q) : Met l y_S_owner (.code y_S_owner prog_1_method_13_code 3 (some .int) :: zd_ww) { frames := 1, cells := 0, slots := 0, locals := 22 } (va_Pc [.ref (ad 1), .int x1, .int x2] (zs_U 0 D cA ad A σ)) (zs_Qi 0 D cA ad A q) 0 0 A := by
  refine Met.ofW (cc := prog_1_method_13_code) (maxL := 3) (ret := (some .int)) (by decide) rfl ?_
  intro p e s m args below meth c s₁ B hml hv
  obtain ⟨hargs, hP, hK, hD, hZ⟩ := hv
  have G : zs_G 0 p s m args c prog_1_method_13_code 3 "ScheduleCheck" D cA ad A := ⟨⟨B.exec, B.bytes, hml, findClass_of_methodNamed B.named, fun w h => atoms_spec B.pre w (List.mem_cons_of_mem _ h)⟩, hK, hJ, hZ⟩
  have hw : zs_I 0 D cA ad A s σ s.heap [] := ⟨hP, hD, va_S.rf⟩
  have hx := G.1.1
  have hb := G.1.2.1
  have hown := G.1.2.2.2.1
  have hts := G.1.2.2.2.2
  have hr := B.returns
  have hlocks := B.notSynchronized
  have he : entryFrame m args 3 = F0 m 0 ((lg_sl [.ref (ad 1), .int x1, .int x2] ++ List.replicate (3 - (lg_sl [.ref (ad 1), .int x1, .int x2]).length) Slot.unset).toArray) [] := by rw [hargs]; exact lg_entry_eq m _ 3
  have hl := lv_entry [.ref (ad 1), .int x1, .int x2] (n := 3) (Nat.le_of_ble_eq_true rfl)
  rw [he]
  generalize (lg_sl [.ref (ad 1), .int x1, .int x2] ++ List.replicate (3 - (lg_sl [.ref (ad 1), .int x1, .int x2]).length) Slot.unset).toArray = ls at hl
  have hl : lv_has ls 3 [(0, .ref (ad 1)), (1, .int x1), (2, .int x2)] := hl
  obtain ⟨RR, hR⟩ : ∃ z, z = (headSpec (.code y_S_owner prog_1_method_13_code 3 (some .int) :: zd_ww) { frames := 1, cells := 0, slots := 0, locals := 22 }).room := ⟨_, rfl⟩
  rw [← hR]
  obtain ⟨QQ, hQ⟩ : ∃ z, z = MQ below (zs_Qi 0 D cA ad A q) args s 0 0 A := ⟨_, rfl⟩
  rw [← hQ]
  have hR1 : 1 ≤ RR.frames := by rw [hR]; exact Nat.le_refl _
  have hR2 : 22 ≤ RR.locals := by rw [hR]; exact Nat.le_refl _
  generalize s.heap = H at hw ⊢
  generalize ([] : List Loc) = locs at hw ⊢
  have K26 : ∀ (σ : zs_S) (H : Heap) (locs : List Loc) (ls : Array Slot), zf_S_owner_26 F σ = some q → zs_I 0 D cA ad A s σ H locs → lv_has ls 3 [] → W p l e RR s m args below meth c H locs 0 0 QQ (F0 m 26 ls []) := by
    intro   σ H locs ls hf hw hl
    unfold zf_S_owner_26 at hf
    refine lv_bipush (v := (-2)) hx hb d_S_owner_26 (by decide) ?_
    exact zr_iret G hw hr hlocks hf hQ d_S_owner_28
  unfold zf_S_owner at hf
  refine lv_aload_n hx hb d_S_owner_0 rfl (lv_at hl 0 rfl) ?_
  refine zr_get (ci := 0) G hw 1 4 zi_0 rfl rfl rfl (by decide) zm_463 (fun _ h => h) (v := .ref (ad 10)) rfl d_S_owner_1 ?_
  refine lv_iload_n hx hb d_S_owner_4 rfl (lv_at hl 1 rfl) ?_
  obtain ⟨r2, σ1, hc3, hf⟩ := zq_cs hf
  refine zr_ci hw (zr_runV (rest := []) (ci := 3) (o := 10) G hw [.int x1] (zc_States_has hJ hc3) (cwV 1 hts (zs_gV zm_487 zm_488 zm_489 zm_39 zm_486) rfl rfl rfl (by decide +kernel) ⟨Nat.le_trans (by decide) hR1, Nat.le_trans (by decide) hR2⟩) rfl rfl rfl hl.1 (Nat.le_of_ble_eq_true rfl) d_S_owner_5 ⟨Nat.zero_le _, Nat.zero_le _⟩) (fun H locs hw => ?_)
  refine lv_if_eq hx hb d_S_owner_8 (tgt := 26) rfl (fun hc => ?_) (fun hc => ?_)
  · have hf := (if_pos hc).symm.trans hf
    exact K26 σ1 H locs ls hf hw (lv_sub hl [] rfl)
  · have hf := (if_neg hc).symm.trans hf
    refine lv_iload_n hx hb d_S_owner_11 rfl (lv_at hl 2 rfl) ?_
    refine lv_if_lt hx hb d_S_owner_12 (tgt := 26) rfl (fun hc => ?_) (fun hc => ?_)
    · have hf := (if_pos hc).symm.trans hf
      exact K26 σ1 H locs ls hf hw (lv_sub hl [] rfl)
    · have hf := (if_neg hc).symm.trans hf
      refine lv_iload_n hx hb d_S_owner_15 rfl (lv_at hl 2 rfl) ?_
      refine lv_aload_n hx hb d_S_owner_16 rfl (lv_at hl 0 rfl) ?_
      obtain ⟨q4, e_q4, h_q4, hf⟩ := zq_qs hf
      refine zr_get (ci := 0) G hw 1 6 zi_0 rfl rfl rfl (by decide) zm_456 (fun _ h => h) (v := .ref (ad q4)) (zs_fr rfl e_q4 h_q4) d_S_owner_17 ?_
      obtain ⟨hs5, hf⟩ := zq_gs hf
      have hs5 := zq_ks hs5
      refine zr_get (ci := 5) G hw q4 1 zi_5 hs5 rfl rfl (by decide) zm_484 (fun _ h => h) (v := .int (zs_i σ1 q4 1)) rfl d_S_owner_20 ?_
      refine lv_icmp_lt hx hb d_S_owner_23 (tgt := 29) rfl (fun hc => ?_) (fun hc => ?_)
      · have hf := (if_pos hc).symm.trans hf
        refine lv_aload_n hx hb d_S_owner_29 rfl (lv_at hl 0 rfl) ?_
        refine zr_get (ci := 0) G hw 1 4 zi_0 rfl rfl rfl (by decide) zm_463 (fun _ h => h) (v := .ref (ad 10)) rfl d_S_owner_30 ?_
        refine lv_iload_n hx hb d_S_owner_33 rfl (lv_at hl 1 rfl) ?_
        refine lv_bipush (v := 8) hx hb d_S_owner_34 (by decide) ?_
        refine lv_iload_n hx hb d_S_owner_36 rfl (lv_at hl 2 rfl) ?_
        refine lv_iadd hx hb d_S_owner_37 ?_
        obtain ⟨r7, σ6, hc8, hf⟩ := zq_cs hf
        refine zr_ci hw (zr_runV (rest := []) (ci := 3) (o := 10) G hw [.int x1, .int (8 + x2)] (zc_States_cell hJ hc8) (cwV 2 hts (zs_gV zm_493 zm_146 zm_147 zm_39 zm_144) rfl rfl rfl (by decide +kernel) ⟨Nat.le_trans (by decide) hR1, Nat.le_trans (by decide) hR2⟩) rfl rfl rfl hl.1 (Nat.le_of_ble_eq_true rfl) d_S_owner_38 ⟨Nat.zero_le _, Nat.zero_le _⟩) (fun H locs hw => ?_)
        exact zr_iret G hw hr hlocks hf hQ d_S_owner_41
      · have hf := (if_neg hc).symm.trans hf
        exact K26 σ1 H locs ls hf hw (lv_sub hl [] rfl)
/-! ScheduleCheck.waits -/
def y_S_waits : MethodName := ⟨"ScheduleCheck","waits","(II)I"⟩
theorem d_S_waits_0 : decode prog_1_method_14_code 0 = .ok (.aload_n 0, 1) := by decide +kernel
theorem d_S_waits_1 : decode prog_1_method_14_code 1 = .ok (.getfield 30, 3) := by decide +kernel
theorem d_S_waits_4 : decode prog_1_method_14_code 4 = .ok (.iload_n 1, 1) := by decide +kernel
theorem d_S_waits_5 : decode prog_1_method_14_code 5 = .ok (.invokevirtual 105, 3) := by decide +kernel
theorem d_S_waits_8 : decode prog_1_method_14_code 8 = .ok (.ifCond .eq 14, 3) := by decide +kernel
theorem d_S_waits_11 : decode prog_1_method_14_code 11 = .ok (.aload_n 0, 1) := by decide +kernel
theorem d_S_waits_12 : decode prog_1_method_14_code 12 = .ok (.getfield 37, 3) := by decide +kernel
theorem d_S_waits_15 : decode prog_1_method_14_code 15 = .ok (.iload_n 2, 1) := by decide +kernel
theorem d_S_waits_16 : decode prog_1_method_14_code 16 = .ok (.invokevirtual 126, 3) := by decide +kernel
theorem d_S_waits_19 : decode prog_1_method_14_code 19 = .ok (.ifCond .ne 6, 3) := by decide +kernel
theorem d_S_waits_22 : decode prog_1_method_14_code 22 = .ok (.bipush (-2), 2) := by decide +kernel
theorem d_S_waits_24 : decode prog_1_method_14_code 24 = .ok (.ireturn, 1) := by decide +kernel
theorem d_S_waits_25 : decode prog_1_method_14_code 25 = .ok (.aload_n 0, 1) := by decide +kernel
theorem d_S_waits_26 : decode prog_1_method_14_code 26 = .ok (.getfield 30, 3) := by decide +kernel
theorem d_S_waits_29 : decode prog_1_method_14_code 29 = .ok (.iload_n 1, 1) := by decide +kernel
theorem d_S_waits_30 : decode prog_1_method_14_code 30 = .ok (.bipush 16, 2) := by decide +kernel
theorem d_S_waits_32 : decode prog_1_method_14_code 32 = .ok (.iload_n 2, 1) := by decide +kernel
theorem d_S_waits_33 : decode prog_1_method_14_code 33 = .ok (.iadd, 1) := by decide +kernel
theorem d_S_waits_34 : decode prog_1_method_14_code 34 = .ok (.invokevirtual 119, 3) := by decide +kernel
theorem d_S_waits_37 : decode prog_1_method_14_code 37 = .ok (.ireturn, 1) := by decide +kernel
def zf_S_waits_22 (F : Nat)   (σ : zs_S) : Option (Int32 × zs_S) :=
  some ((-2), σ)
def zf_S_waits (F : Nat) (x1 : Int32) (x2 : Int32) (σ : zs_S) : Option (Int32 × zs_S) :=
  zq_c (zf_States_has F x1 σ) fun r2 σ1 =>
  if r2 = 0 then (
    zf_S_waits_22 F σ1
  ) else (
    zq_q (zs_r σ1 1 6) fun q4 =>
    zq_g (zq_k 0 q4 15) <|
    zq_c (zf_Program_hasThread F q4 x2 σ1) fun r6 σ5 =>
    if r6 = 0 then (
      zf_S_waits_22 F σ5
    ) else (
      zq_c (zf_States_cell F x1 (16 + x2) σ5) fun r10 σ9 =>
      some (r10, σ9)
    )
  )
set_option maxHeartbeats 4000000 in
set_option maxRecDepth 100000 in
theorem zc_S_waits {l : Launch} {D : va_G} {cA : Nat → ClassId} {ad : Nat → Nat} {A : Nat → Prop} {F : Nat} {x1 : Int32} {x2 : Int32} {σ : zs_S} {q : Int32 × zs_S} (hJ : zs_J ad) (hf : zf_S_waits F x1 x2 σ = some q) : Met l y_S_waits (.code y_S_waits prog_1_method_14_code 3 (some .int) :: zd_ww) { frames := 1, cells := 0, slots := 0, locals := 22 } (va_Pc [.ref (ad 1), .int x1, .int x2] (zs_U 0 D cA ad A σ)) (zs_Qi 0 D cA ad A q) 0 0 A := by
  refine Met.ofW (cc := prog_1_method_14_code) (maxL := 3) (ret := (some .int)) (by decide) rfl ?_
  intro p e s m args below meth c s₁ B hml hv
  obtain ⟨hargs, hP, hK, hD, hZ⟩ := hv
  have G : zs_G 0 p s m args c prog_1_method_14_code 3 "ScheduleCheck" D cA ad A := ⟨⟨B.exec, B.bytes, hml, findClass_of_methodNamed B.named, fun w h => atoms_spec B.pre w (List.mem_cons_of_mem _ h)⟩, hK, hJ, hZ⟩
  have hw : zs_I 0 D cA ad A s σ s.heap [] := ⟨hP, hD, va_S.rf⟩
  have hx := G.1.1
  have hb := G.1.2.1
  have hown := G.1.2.2.2.1
  have hts := G.1.2.2.2.2
  have hr := B.returns
  have hlocks := B.notSynchronized
  have he : entryFrame m args 3 = F0 m 0 ((lg_sl [.ref (ad 1), .int x1, .int x2] ++ List.replicate (3 - (lg_sl [.ref (ad 1), .int x1, .int x2]).length) Slot.unset).toArray) [] := by rw [hargs]; exact lg_entry_eq m _ 3
  have hl := lv_entry [.ref (ad 1), .int x1, .int x2] (n := 3) (Nat.le_of_ble_eq_true rfl)
  rw [he]
  generalize (lg_sl [.ref (ad 1), .int x1, .int x2] ++ List.replicate (3 - (lg_sl [.ref (ad 1), .int x1, .int x2]).length) Slot.unset).toArray = ls at hl
  have hl : lv_has ls 3 [(0, .ref (ad 1)), (1, .int x1), (2, .int x2)] := hl
  obtain ⟨RR, hR⟩ : ∃ z, z = (headSpec (.code y_S_waits prog_1_method_14_code 3 (some .int) :: zd_ww) { frames := 1, cells := 0, slots := 0, locals := 22 }).room := ⟨_, rfl⟩
  rw [← hR]
  obtain ⟨QQ, hQ⟩ : ∃ z, z = MQ below (zs_Qi 0 D cA ad A q) args s 0 0 A := ⟨_, rfl⟩
  rw [← hQ]
  have hR1 : 1 ≤ RR.frames := by rw [hR]; exact Nat.le_refl _
  have hR2 : 22 ≤ RR.locals := by rw [hR]; exact Nat.le_refl _
  generalize s.heap = H at hw ⊢
  generalize ([] : List Loc) = locs at hw ⊢
  have K22 : ∀ (σ : zs_S) (H : Heap) (locs : List Loc) (ls : Array Slot), zf_S_waits_22 F σ = some q → zs_I 0 D cA ad A s σ H locs → lv_has ls 3 [] → W p l e RR s m args below meth c H locs 0 0 QQ (F0 m 22 ls []) := by
    intro   σ H locs ls hf hw hl
    unfold zf_S_waits_22 at hf
    refine lv_bipush (v := (-2)) hx hb d_S_waits_22 (by decide) ?_
    exact zr_iret G hw hr hlocks hf hQ d_S_waits_24
  unfold zf_S_waits at hf
  refine lv_aload_n hx hb d_S_waits_0 rfl (lv_at hl 0 rfl) ?_
  refine zr_get (ci := 0) G hw 1 4 zi_0 rfl rfl rfl (by decide) zm_463 (fun _ h => h) (v := .ref (ad 10)) rfl d_S_waits_1 ?_
  refine lv_iload_n hx hb d_S_waits_4 rfl (lv_at hl 1 rfl) ?_
  obtain ⟨r2, σ1, hc3, hf⟩ := zq_cs hf
  refine zr_ci hw (zr_runV (rest := []) (ci := 3) (o := 10) G hw [.int x1] (zc_States_has hJ hc3) (cwV 1 hts (zs_gV zm_487 zm_488 zm_489 zm_39 zm_486) rfl rfl rfl (by decide +kernel) ⟨Nat.le_trans (by decide) hR1, Nat.le_trans (by decide) hR2⟩) rfl rfl rfl hl.1 (Nat.le_of_ble_eq_true rfl) d_S_waits_5 ⟨Nat.zero_le _, Nat.zero_le _⟩) (fun H locs hw => ?_)
  refine lv_if_eq hx hb d_S_waits_8 (tgt := 22) rfl (fun hc => ?_) (fun hc => ?_)
  · have hf := (if_pos hc).symm.trans hf
    exact K22 σ1 H locs ls hf hw (lv_sub hl [] rfl)
  · have hf := (if_neg hc).symm.trans hf
    refine lv_aload_n hx hb d_S_waits_11 rfl (lv_at hl 0 rfl) ?_
    obtain ⟨q4, e_q4, h_q4, hf⟩ := zq_qs hf
    refine zr_get (ci := 0) G hw 1 6 zi_0 rfl rfl rfl (by decide) zm_456 (fun _ h => h) (v := .ref (ad q4)) (zs_fr rfl e_q4 h_q4) d_S_waits_12 ?_
    refine lv_iload_n hx hb d_S_waits_15 rfl (lv_at hl 2 rfl) ?_
    obtain ⟨hs8, hf⟩ := zq_gs hf
    have hs8 := zq_ks hs8
    obtain ⟨r6, σ5, hc7, hf⟩ := zq_cs hf
    refine zr_ci hw (zr_runV (rest := []) (ci := 5) (o := q4) G hw [.int x2] (zc_Program_hasThread hJ hc7) (cwV 1 hts (zs_gV zm_499 zm_500 zm_501 zm_116 zm_498) rfl rfl rfl (by decide +kernel) ⟨Nat.le_trans (by decide) hR1, Nat.le_trans (by decide) hR2⟩) hs8 rfl rfl hl.1 (Nat.le_of_ble_eq_true rfl) d_S_waits_16 ⟨Nat.zero_le _, Nat.zero_le _⟩) (fun H locs hw => ?_)
    refine lv_if_ne hx hb d_S_waits_19 (tgt := 25) rfl (fun hc => ?_) (fun hc => ?_)
    · have hf := (if_neg hc).symm.trans hf
      refine lv_aload_n hx hb d_S_waits_25 rfl (lv_at hl 0 rfl) ?_
      refine zr_get (ci := 0) G hw 1 4 zi_0 rfl rfl rfl (by decide) zm_463 (fun _ h => h) (v := .ref (ad 10)) rfl d_S_waits_26 ?_
      refine lv_iload_n hx hb d_S_waits_29 rfl (lv_at hl 1 rfl) ?_
      refine lv_bipush (v := 16) hx hb d_S_waits_30 (by decide) ?_
      refine lv_iload_n hx hb d_S_waits_32 rfl (lv_at hl 2 rfl) ?_
      refine lv_iadd hx hb d_S_waits_33 ?_
      obtain ⟨r10, σ9, hc11, hf⟩ := zq_cs hf
      refine zr_ci hw (zr_runV (rest := []) (ci := 3) (o := 10) G hw [.int x1, .int (16 + x2)] (zc_States_cell hJ hc11) (cwV 2 hts (zs_gV zm_493 zm_146 zm_147 zm_39 zm_144) rfl rfl rfl (by decide +kernel) ⟨Nat.le_trans (by decide) hR1, Nat.le_trans (by decide) hR2⟩) rfl rfl rfl hl.1 (Nat.le_of_ble_eq_true rfl) d_S_waits_34 ⟨Nat.zero_le _, Nat.zero_le _⟩) (fun H locs hw => ?_)
      exact zr_iret G hw hr hlocks hf hQ d_S_waits_37
    · have hf := (if_pos hc).symm.trans hf
      exact K22 σ5 H locs ls hf hw (lv_sub hl [] rfl)
/-! ScheduleCheck.next -/
def y_S_next : MethodName := ⟨"ScheduleCheck","next","(II)I"⟩
theorem d_S_next_0 : decode prog_1_method_15_code 0 = .ok (.aload_n 0, 1) := by decide +kernel
theorem d_S_next_1 : decode prog_1_method_15_code 1 = .ok (.getfield 30, 3) := by decide +kernel
theorem d_S_next_4 : decode prog_1_method_15_code 4 = .ok (.iload_n 1, 1) := by decide +kernel
theorem d_S_next_5 : decode prog_1_method_15_code 5 = .ok (.invokevirtual 105, 3) := by decide +kernel
theorem d_S_next_8 : decode prog_1_method_15_code 8 = .ok (.ifCond .eq 19, 3) := by decide +kernel
theorem d_S_next_11 : decode prog_1_method_15_code 11 = .ok (.iload_n 2, 1) := by decide +kernel
theorem d_S_next_12 : decode prog_1_method_15_code 12 = .ok (.ifCond .lt 15, 3) := by decide +kernel
theorem d_S_next_15 : decode prog_1_method_15_code 15 = .ok (.iload_n 2, 1) := by decide +kernel
theorem d_S_next_16 : decode prog_1_method_15_code 16 = .ok (.aload_n 0, 1) := by decide +kernel
theorem d_S_next_17 : decode prog_1_method_15_code 17 = .ok (.getfield 30, 3) := by decide +kernel
theorem d_S_next_20 : decode prog_1_method_15_code 20 = .ok (.iload_n 1, 1) := by decide +kernel
theorem d_S_next_21 : decode prog_1_method_15_code 21 = .ok (.invokevirtual 135, 3) := by decide +kernel
theorem d_S_next_24 : decode prog_1_method_15_code 24 = .ok (.if_icmp .lt 6, 3) := by decide +kernel
theorem d_S_next_27 : decode prog_1_method_15_code 27 = .ok (.bipush (-2), 2) := by decide +kernel
theorem d_S_next_29 : decode prog_1_method_15_code 29 = .ok (.ireturn, 1) := by decide +kernel
theorem d_S_next_30 : decode prog_1_method_15_code 30 = .ok (.aload_n 0, 1) := by decide +kernel
theorem d_S_next_31 : decode prog_1_method_15_code 31 = .ok (.getfield 30, 3) := by decide +kernel
theorem d_S_next_34 : decode prog_1_method_15_code 34 = .ok (.getfield 138, 3) := by decide +kernel
theorem d_S_next_37 : decode prog_1_method_15_code 37 = .ok (.aload_n 0, 1) := by decide +kernel
theorem d_S_next_38 : decode prog_1_method_15_code 38 = .ok (.getfield 30, 3) := by decide +kernel
theorem d_S_next_41 : decode prog_1_method_15_code 41 = .ok (.getfield 141, 3) := by decide +kernel
theorem d_S_next_44 : decode prog_1_method_15_code 44 = .ok (.iload_n 1, 1) := by decide +kernel
theorem d_S_next_45 : decode prog_1_method_15_code 45 = .ok (.iaload, 1) := by decide +kernel
theorem d_S_next_46 : decode prog_1_method_15_code 46 = .ok (.iload_n 2, 1) := by decide +kernel
theorem d_S_next_47 : decode prog_1_method_15_code 47 = .ok (.iadd, 1) := by decide +kernel
theorem d_S_next_48 : decode prog_1_method_15_code 48 = .ok (.iaload, 1) := by decide +kernel
theorem d_S_next_49 : decode prog_1_method_15_code 49 = .ok (.ireturn, 1) := by decide +kernel
def zf_S_next_27 (F : Nat)   (σ : zs_S) : Option (Int32 × zs_S) :=
  some ((-2), σ)
def zf_S_next (F : Nat) (x1 : Int32) (x2 : Int32) (σ : zs_S) : Option (Int32 × zs_S) :=
  zq_c (zf_States_has F x1 σ) fun r2 σ1 =>
  if r2 = 0 then (
    zf_S_next_27 F σ1
  ) else (
    if x2 < 0 then (
      zf_S_next_27 F σ1
    ) else (
      zq_c (zf_States_stepsOf F x1 σ1) fun r5 σ4 =>
      if x2 < r5 then (
        zq_g (zq_b x1 801) <|
        zq_g (zq_b ((zs_i σ4 16 (x1).toNatClampNeg) + x2) 3200) <|
        some (zs_i σ4 15 ((zs_i σ4 16 (x1).toNatClampNeg) + x2).toNatClampNeg, σ4)
      ) else (
        zf_S_next_27 F σ4
      )
    )
  )
set_option maxHeartbeats 4000000 in
set_option maxRecDepth 100000 in
theorem zc_S_next {l : Launch} {D : va_G} {cA : Nat → ClassId} {ad : Nat → Nat} {A : Nat → Prop} {F : Nat} {x1 : Int32} {x2 : Int32} {σ : zs_S} {q : Int32 × zs_S} (hJ : zs_J ad) (hf : zf_S_next F x1 x2 σ = some q) : Met l y_S_next (.code y_S_next prog_1_method_15_code 3 (some .int) :: zd_ww) { frames := 1, cells := 0, slots := 0, locals := 21 } (va_Pc [.ref (ad 1), .int x1, .int x2] (zs_U 0 D cA ad A σ)) (zs_Qi 0 D cA ad A q) 0 0 A := by
  refine Met.ofW (cc := prog_1_method_15_code) (maxL := 3) (ret := (some .int)) (by decide) rfl ?_
  intro p e s m args below meth c s₁ B hml hv
  obtain ⟨hargs, hP, hK, hD, hZ⟩ := hv
  have G : zs_G 0 p s m args c prog_1_method_15_code 3 "ScheduleCheck" D cA ad A := ⟨⟨B.exec, B.bytes, hml, findClass_of_methodNamed B.named, fun w h => atoms_spec B.pre w (List.mem_cons_of_mem _ h)⟩, hK, hJ, hZ⟩
  have hw : zs_I 0 D cA ad A s σ s.heap [] := ⟨hP, hD, va_S.rf⟩
  have hx := G.1.1
  have hb := G.1.2.1
  have hown := G.1.2.2.2.1
  have hts := G.1.2.2.2.2
  have hr := B.returns
  have hlocks := B.notSynchronized
  have he : entryFrame m args 3 = F0 m 0 ((lg_sl [.ref (ad 1), .int x1, .int x2] ++ List.replicate (3 - (lg_sl [.ref (ad 1), .int x1, .int x2]).length) Slot.unset).toArray) [] := by rw [hargs]; exact lg_entry_eq m _ 3
  have hl := lv_entry [.ref (ad 1), .int x1, .int x2] (n := 3) (Nat.le_of_ble_eq_true rfl)
  rw [he]
  generalize (lg_sl [.ref (ad 1), .int x1, .int x2] ++ List.replicate (3 - (lg_sl [.ref (ad 1), .int x1, .int x2]).length) Slot.unset).toArray = ls at hl
  have hl : lv_has ls 3 [(0, .ref (ad 1)), (1, .int x1), (2, .int x2)] := hl
  obtain ⟨RR, hR⟩ : ∃ z, z = (headSpec (.code y_S_next prog_1_method_15_code 3 (some .int) :: zd_ww) { frames := 1, cells := 0, slots := 0, locals := 21 }).room := ⟨_, rfl⟩
  rw [← hR]
  obtain ⟨QQ, hQ⟩ : ∃ z, z = MQ below (zs_Qi 0 D cA ad A q) args s 0 0 A := ⟨_, rfl⟩
  rw [← hQ]
  have hR1 : 1 ≤ RR.frames := by rw [hR]; exact Nat.le_refl _
  have hR2 : 21 ≤ RR.locals := by rw [hR]; exact Nat.le_refl _
  generalize s.heap = H at hw ⊢
  generalize ([] : List Loc) = locs at hw ⊢
  have K27 : ∀ (σ : zs_S) (H : Heap) (locs : List Loc) (ls : Array Slot), zf_S_next_27 F σ = some q → zs_I 0 D cA ad A s σ H locs → lv_has ls 3 [] → W p l e RR s m args below meth c H locs 0 0 QQ (F0 m 27 ls []) := by
    intro   σ H locs ls hf hw hl
    unfold zf_S_next_27 at hf
    refine lv_bipush (v := (-2)) hx hb d_S_next_27 (by decide) ?_
    exact zr_iret G hw hr hlocks hf hQ d_S_next_29
  unfold zf_S_next at hf
  refine lv_aload_n hx hb d_S_next_0 rfl (lv_at hl 0 rfl) ?_
  refine zr_get (ci := 0) G hw 1 4 zi_0 rfl rfl rfl (by decide) zm_463 (fun _ h => h) (v := .ref (ad 10)) rfl d_S_next_1 ?_
  refine lv_iload_n hx hb d_S_next_4 rfl (lv_at hl 1 rfl) ?_
  obtain ⟨r2, σ1, hc3, hf⟩ := zq_cs hf
  refine zr_ci hw (zr_runV (rest := []) (ci := 3) (o := 10) G hw [.int x1] (zc_States_has hJ hc3) (cwV 1 hts (zs_gV zm_487 zm_488 zm_489 zm_39 zm_486) rfl rfl rfl (by decide +kernel) ⟨Nat.le_trans (by decide) hR1, Nat.le_trans (by decide) hR2⟩) rfl rfl rfl hl.1 (Nat.le_of_ble_eq_true rfl) d_S_next_5 ⟨Nat.zero_le _, Nat.zero_le _⟩) (fun H locs hw => ?_)
  refine lv_if_eq hx hb d_S_next_8 (tgt := 27) rfl (fun hc => ?_) (fun hc => ?_)
  · have hf := (if_pos hc).symm.trans hf
    exact K27 σ1 H locs ls hf hw (lv_sub hl [] rfl)
  · have hf := (if_neg hc).symm.trans hf
    refine lv_iload_n hx hb d_S_next_11 rfl (lv_at hl 2 rfl) ?_
    refine lv_if_lt hx hb d_S_next_12 (tgt := 27) rfl (fun hc => ?_) (fun hc => ?_)
    · have hf := (if_pos hc).symm.trans hf
      exact K27 σ1 H locs ls hf hw (lv_sub hl [] rfl)
    · have hf := (if_neg hc).symm.trans hf
      refine lv_iload_n hx hb d_S_next_15 rfl (lv_at hl 2 rfl) ?_
      refine lv_aload_n hx hb d_S_next_16 rfl (lv_at hl 0 rfl) ?_
      refine zr_get (ci := 0) G hw 1 4 zi_0 rfl rfl rfl (by decide) zm_463 (fun _ h => h) (v := .ref (ad 10)) rfl d_S_next_17 ?_
      refine lv_iload_n hx hb d_S_next_20 rfl (lv_at hl 1 rfl) ?_
      obtain ⟨r5, σ4, hc6, hf⟩ := zq_cs hf
      refine zr_ci hw (zr_runV (rest := [.int x2]) (ci := 3) (o := 10) G hw [.int x1] (zc_States_stepsOf hJ hc6) (cwV 1 hts (zs_gV zm_504 zm_219 zm_220 zm_39 zm_217) rfl rfl rfl (by decide +kernel) ⟨Nat.le_trans (by decide) hR1, Nat.le_trans (by decide) hR2⟩) rfl rfl rfl hl.1 (Nat.le_of_ble_eq_true rfl) d_S_next_21 ⟨Nat.zero_le _, Nat.zero_le _⟩) (fun H locs hw => ?_)
      refine lv_icmp_lt hx hb d_S_next_24 (tgt := 30) rfl (fun hc => ?_) (fun hc => ?_)
      · have hf := (if_pos hc).symm.trans hf
        refine lv_aload_n hx hb d_S_next_30 rfl (lv_at hl 0 rfl) ?_
        refine zr_get (ci := 0) G hw 1 4 zi_0 rfl rfl rfl (by decide) zm_463 (fun _ h => h) (v := .ref (ad 10)) rfl d_S_next_31 ?_
        refine zr_get (ci := 3) G hw 10 4 zi_3 rfl rfl rfl (by decide) zm_505 (fun _ h => h) (v := .ref (ad 15)) rfl d_S_next_34 ?_
        refine lv_aload_n hx hb d_S_next_37 rfl (lv_at hl 0 rfl) ?_
        refine zr_get (ci := 0) G hw 1 4 zi_0 rfl rfl rfl (by decide) zm_463 (fun _ h => h) (v := .ref (ad 10)) rfl d_S_next_38 ?_
        refine zr_get (ci := 3) G hw 10 5 zi_3 rfl rfl rfl (by decide) zm_506 (fun _ h => h) (v := .ref (ad 16)) rfl d_S_next_41 ?_
        refine lv_iload_n hx hb d_S_next_44 rfl (lv_at hl 1 rfl) ?_
        obtain ⟨hi7, hf⟩ := zq_gs hf
        refine zr_iald G hw 16 rfl rfl hi7 d_S_next_45 ?_
        refine lv_iload_n hx hb d_S_next_46 rfl (lv_at hl 2 rfl) ?_
        refine lv_iadd hx hb d_S_next_47 ?_
        obtain ⟨hi8, hf⟩ := zq_gs hf
        refine zr_iald G hw 15 rfl rfl hi8 d_S_next_48 ?_
        exact zr_iret G hw hr hlocks hf hQ d_S_next_49
      · have hf := (if_neg hc).symm.trans hf
        exact K27 σ4 H locs ls hf hw (lv_sub hl [] rfl)
/-! ScheduleCheck.markEndValues -/
def y_S_markEndValues : MethodName := ⟨"ScheduleCheck","markEndValues","(I)V"⟩
theorem d_S_markEndValues_0 : decode prog_1_method_17_code 0 = .ok (.aload_n 0, 1) := by decide +kernel
theorem d_S_markEndValues_1 : decode prog_1_method_17_code 1 = .ok (.getfield 53, 3) := by decide +kernel
theorem d_S_markEndValues_4 : decode prog_1_method_17_code 4 = .ok (.iconst 0, 1) := by decide +kernel
theorem d_S_markEndValues_5 : decode prog_1_method_17_code 5 = .ok (.invokestatic 147, 3) := by decide +kernel
theorem d_S_markEndValues_8 : decode prog_1_method_17_code 8 = .ok (.iconst 0, 1) := by decide +kernel
theorem d_S_markEndValues_9 : decode prog_1_method_17_code 9 = .ok (.istore_n 2, 1) := by decide +kernel
theorem d_S_markEndValues_10 : decode prog_1_method_17_code 10 = .ok (.iload_n 2, 1) := by decide +kernel
theorem d_S_markEndValues_11 : decode prog_1_method_17_code 11 = .ok (.aload_n 0, 1) := by decide +kernel
theorem d_S_markEndValues_12 : decode prog_1_method_17_code 12 = .ok (.getfield 30, 3) := by decide +kernel
theorem d_S_markEndValues_15 : decode prog_1_method_17_code 15 = .ok (.getfield 80, 3) := by decide +kernel
theorem d_S_markEndValues_18 : decode prog_1_method_17_code 18 = .ok (.if_icmp .ge 39, 3) := by decide +kernel
theorem d_S_markEndValues_21 : decode prog_1_method_17_code 21 = .ok (.aload_n 0, 1) := by decide +kernel
theorem d_S_markEndValues_22 : decode prog_1_method_17_code 22 = .ok (.getfield 49, 3) := by decide +kernel
theorem d_S_markEndValues_25 : decode prog_1_method_17_code 25 = .ok (.iload_n 2, 1) := by decide +kernel
theorem d_S_markEndValues_26 : decode prog_1_method_17_code 26 = .ok (.iconst 0, 1) := by decide +kernel
theorem d_S_markEndValues_27 : decode prog_1_method_17_code 27 = .ok (.invokevirtual 101, 3) := by decide +kernel
theorem d_S_markEndValues_30 : decode prog_1_method_17_code 30 = .ok (.ifCond .eq 21, 3) := by decide +kernel
theorem d_S_markEndValues_33 : decode prog_1_method_17_code 33 = .ok (.aload_n 0, 1) := by decide +kernel
theorem d_S_markEndValues_34 : decode prog_1_method_17_code 34 = .ok (.getfield 53, 3) := by decide +kernel
theorem d_S_markEndValues_37 : decode prog_1_method_17_code 37 = .ok (.aload_n 0, 1) := by decide +kernel
theorem d_S_markEndValues_38 : decode prog_1_method_17_code 38 = .ok (.getfield 30, 3) := by decide +kernel
theorem d_S_markEndValues_41 : decode prog_1_method_17_code 41 = .ok (.iload_n 2, 1) := by decide +kernel
theorem d_S_markEndValues_42 : decode prog_1_method_17_code 42 = .ok (.iload_n 1, 1) := by decide +kernel
theorem d_S_markEndValues_43 : decode prog_1_method_17_code 43 = .ok (.invokevirtual 119, 3) := by decide +kernel
theorem d_S_markEndValues_46 : decode prog_1_method_17_code 46 = .ok (.bipush (-128), 2) := by decide +kernel
theorem d_S_markEndValues_48 : decode prog_1_method_17_code 48 = .ok (.isub, 1) := by decide +kernel
theorem d_S_markEndValues_49 : decode prog_1_method_17_code 49 = .ok (.iconst 1, 1) := by decide +kernel
theorem d_S_markEndValues_50 : decode prog_1_method_17_code 50 = .ok (.bastore, 1) := by decide +kernel
theorem d_S_markEndValues_51 : decode prog_1_method_17_code 51 = .ok (.iinc 2 1, 3) := by decide +kernel
theorem d_S_markEndValues_54 : decode prog_1_method_17_code 54 = .ok (.goto (-44), 3) := by decide +kernel
theorem d_S_markEndValues_57 : decode prog_1_method_17_code 57 = .ok (.return_, 1) := by decide +kernel
def zf_S_markEndValues_51 (F : Nat) (k10 : Int32 → Int32 → zs_S → Option (zs_S)) (x1 : Int32) (x2 : Int32) (σ : zs_S) : Option (zs_S) :=
  zq_v (x2 + 1) fun v12 =>
  k10 x1 v12 σ
def zf_S_markEndValues_10 (F : Nat)  : Nat → Int32 → Int32 → zs_S → Option (zs_S)
  | 0, _, _, _ => none
  | n + 1, x1, x2, σ =>
    if (zs_i σ 10 9) ≤ x2 then (
      some σ
    ) else (
      zq_c (zf_Explorer_isSort F x2 0 σ) fun r5 σ4 =>
      if r5 = 0 then (
        zf_S_markEndValues_51 F (zf_S_markEndValues_10 F n) x1 x2 σ4
      ) else (
        zq_c (zf_States_cell F x2 x1 σ4) fun r8 σ7 =>
        zq_g (zq_b (r8 - ((-128))) 256) <|
        zq_v (zs_wi σ7 139 ((r8 - ((-128))).toNatClampNeg) (vp_nar .byte 1)) fun σ11 =>
        zf_S_markEndValues_51 F (zf_S_markEndValues_10 F n) x1 x2 σ11
      )
    )
def zf_S_markEndValues (F : Nat) (x1 : Int32) (σ : zs_S) : Option (zs_S) :=
  zq_d (zf_Arrays_fillB0 F 139 0 σ) fun σ1 =>
  zf_S_markEndValues_10 F F x1 0 σ1
set_option maxHeartbeats 4000000 in
set_option maxRecDepth 100000 in
theorem zc_S_markEndValues {l : Launch} {D : va_G} {cA : Nat → ClassId} {ad : Nat → Nat} {A : Nat → Prop} {F : Nat} {x1 : Int32} {σ : zs_S} {q : zs_S} (hJ : zs_J ad) (hf : zf_S_markEndValues F x1 σ = some q) : Met l y_S_markEndValues (.code y_S_markEndValues prog_1_method_17_code 3 none :: zd_ww) { frames := 3, cells := 0, slots := 0, locals := 67 } (va_Pc [.ref (ad 1), .int x1] (zs_U 0 D cA ad A σ)) (zs_Qv 0 D cA ad A q) 0 0 A := by
  refine Met.ofW (cc := prog_1_method_17_code) (maxL := 3) (ret := none) (by decide) rfl ?_
  intro p e s m args below meth c s₁ B hml hv
  obtain ⟨hargs, hP, hK, hD, hZ⟩ := hv
  have G : zs_G 0 p s m args c prog_1_method_17_code 3 "ScheduleCheck" D cA ad A := ⟨⟨B.exec, B.bytes, hml, findClass_of_methodNamed B.named, fun w h => atoms_spec B.pre w (List.mem_cons_of_mem _ h)⟩, hK, hJ, hZ⟩
  have hw : zs_I 0 D cA ad A s σ s.heap [] := ⟨hP, hD, va_S.rf⟩
  have hx := G.1.1
  have hb := G.1.2.1
  have hown := G.1.2.2.2.1
  have hts := G.1.2.2.2.2
  have hr := B.returns
  have hlocks := B.notSynchronized
  have he : entryFrame m args 3 = F0 m 0 ((lg_sl [.ref (ad 1), .int x1] ++ List.replicate (3 - (lg_sl [.ref (ad 1), .int x1]).length) Slot.unset).toArray) [] := by rw [hargs]; exact lg_entry_eq m _ 3
  have hl := lv_entry [.ref (ad 1), .int x1] (n := 3) (Nat.le_of_ble_eq_true rfl)
  rw [he]
  generalize (lg_sl [.ref (ad 1), .int x1] ++ List.replicate (3 - (lg_sl [.ref (ad 1), .int x1]).length) Slot.unset).toArray = ls at hl
  have hl : lv_has ls 3 [(0, .ref (ad 1)), (1, .int x1)] := hl
  obtain ⟨RR, hR⟩ : ∃ z, z = (headSpec (.code y_S_markEndValues prog_1_method_17_code 3 none :: zd_ww) { frames := 3, cells := 0, slots := 0, locals := 67 }).room := ⟨_, rfl⟩
  rw [← hR]
  obtain ⟨QQ, hQ⟩ : ∃ z, z = MQ below (zs_Qv 0 D cA ad A q) args s 0 0 A := ⟨_, rfl⟩
  rw [← hQ]
  have hR1 : 3 ≤ RR.frames := by rw [hR]; exact Nat.le_refl _
  have hR2 : 67 ≤ RR.locals := by rw [hR]; exact Nat.le_refl _
  generalize s.heap = H at hw ⊢
  generalize ([] : List Loc) = locs at hw ⊢
  have K51 : ∀ (k10 : Int32 → Int32 → zs_S → Option (zs_S)) (hk10 : ∀ (x1 : Int32) (x2 : Int32) (σ : zs_S) (H : Heap) (locs : List Loc) (ls : Array Slot), k10 x1 x2 σ = some q → zs_I 0 D cA ad A s σ H locs → lv_has ls 3 [(0, .ref (ad 1)), (1, .int x1), (2, .int x2)] → W p l e RR s m args below meth c H locs 0 0 QQ (F0 m 10 ls [])) (x1 : Int32) (x2 : Int32) (σ : zs_S) (H : Heap) (locs : List Loc) (ls : Array Slot), zf_S_markEndValues_51 F k10 x1 x2 σ = some q → zs_I 0 D cA ad A s σ H locs → lv_has ls 3 [(0, .ref (ad 1)), (1, .int x1), (2, .int x2)] → W p l e RR s m args below meth c H locs 0 0 QQ (F0 m 51 ls []) := by
    intro k10 hk10 x1 x2 σ H locs ls hf hw hl
    unfold zf_S_markEndValues_51 at hf
    obtain ⟨v12, e_v12, hf⟩ := zq_ss hf
    refine lv_iinc (v := v12) hx hb d_S_markEndValues_51 hl (k := 2) rfl (zq_inc (k := 1) (by decide) e_v12) (by decide) rfl (fun ls hl => ?_)
    have hl : lv_has ls 3 [(2, .int v12), (0, .ref (ad 1)), (1, .int x1)] := hl
    refine lv_goto hx hb d_S_markEndValues_54 (tgt := 10) rfl ?_
    exact hk10 x1 v12 σ H locs ls hf hw (lv_sub hl [1, 2, 0] rfl)
  have K10 : ∀ (n : Nat) (x1 : Int32) (x2 : Int32) (σ : zs_S) (H : Heap) (locs : List Loc) (ls : Array Slot), zf_S_markEndValues_10 F n x1 x2 σ = some q → zs_I 0 D cA ad A s σ H locs → lv_has ls 3 [(0, .ref (ad 1)), (1, .int x1), (2, .int x2)] → W p l e RR s m args below meth c H locs 0 0 QQ (F0 m 10 ls []) := by
    intro  n
    induction n with
    | zero => intro x1 x2 σ H locs ls hf hw hl; exact nomatch (show (none : Option (zs_S)) = some q from hf)
    | succ n ih =>
      intro x1 x2 σ H locs ls hf hw hl
      rw [zf_S_markEndValues_10] at hf
      refine lv_iload_n hx hb d_S_markEndValues_10 rfl (lv_at hl 2 rfl) ?_
      refine lv_aload_n hx hb d_S_markEndValues_11 rfl (lv_at hl 0 rfl) ?_
      refine zr_get (ci := 0) G hw 1 4 zi_0 rfl rfl rfl (by decide) zm_463 (fun _ h => h) (v := .ref (ad 10)) rfl d_S_markEndValues_12 ?_
      refine zr_get (ci := 3) G hw 10 9 zi_3 rfl rfl rfl (by decide) zm_469 (fun _ h => h) (v := .int (zs_i σ 10 9)) rfl d_S_markEndValues_15 ?_
      refine lv_icmp_ge hx hb d_S_markEndValues_18 (tgt := 57) rfl (fun hc => ?_) (fun hc => ?_)
      · have hf := (if_pos hc).symm.trans hf
        exact zr_vret G hw hr hlocks hf hQ d_S_markEndValues_57
      · have hf := (if_neg hc).symm.trans hf
        refine lv_aload_n hx hb d_S_markEndValues_21 rfl (lv_at hl 0 rfl) ?_
        refine zr_get (ci := 0) G hw 1 5 zi_0 rfl rfl rfl (by decide) zm_457 (fun _ h => h) (v := .ref (ad 138)) rfl d_S_markEndValues_22 ?_
        refine lv_iload_n hx hb d_S_markEndValues_25 rfl (lv_at hl 2 rfl) ?_
        refine lv_iconst (v := 0) hx hb d_S_markEndValues_26 (by decide) ?_
        obtain ⟨r5, σ4, hc6, hf⟩ := zq_cs hf
        refine zr_ci hw (zr_runV (rest := []) (ci := 4) (o := 138) G hw [.int x2, .int 0] (zc_Explorer_isSort hJ hc6) (cwV 2 hts (zs_gV zm_471 zm_472 zm_473 zm_152 zm_470) rfl rfl rfl (by decide +kernel) ⟨Nat.le_trans (by decide) hR1, Nat.le_trans (by decide) hR2⟩) rfl rfl rfl hl.1 (Nat.le_of_ble_eq_true rfl) d_S_markEndValues_27 ⟨Nat.zero_le _, Nat.zero_le _⟩) (fun H locs hw => ?_)
        refine lv_if_eq hx hb d_S_markEndValues_30 (tgt := 51) rfl (fun hc => ?_) (fun hc => ?_)
        · have hf := (if_pos hc).symm.trans hf
          exact K51 (zf_S_markEndValues_10 F n) ih x1 x2 σ4 H locs ls hf hw (lv_sub hl [0, 1, 2] rfl)
        · have hf := (if_neg hc).symm.trans hf
          refine lv_aload_n hx hb d_S_markEndValues_33 rfl (lv_at hl 0 rfl) ?_
          refine zr_get (ci := 0) G hw 1 8 zi_0 rfl rfl rfl (by decide) zm_507 (fun _ h => h) (v := .ref (ad 139)) rfl d_S_markEndValues_34 ?_
          refine lv_aload_n hx hb d_S_markEndValues_37 rfl (lv_at hl 0 rfl) ?_
          refine zr_get (ci := 0) G hw 1 4 zi_0 rfl rfl rfl (by decide) zm_463 (fun _ h => h) (v := .ref (ad 10)) rfl d_S_markEndValues_38 ?_
          refine lv_iload_n hx hb d_S_markEndValues_41 rfl (lv_at hl 2 rfl) ?_
          refine lv_iload_n hx hb d_S_markEndValues_42 rfl (lv_at hl 1 rfl) ?_
          obtain ⟨r8, σ7, hc9, hf⟩ := zq_cs hf
          refine zr_ci hw (zr_runV (rest := [.ref (ad 139)]) (ci := 3) (o := 10) G hw [.int x2, .int x1] (zc_States_cell hJ hc9) (cwV 2 hts (zs_gV zm_493 zm_146 zm_147 zm_39 zm_144) rfl rfl rfl (by decide +kernel) ⟨Nat.le_trans (by decide) hR1, Nat.le_trans (by decide) hR2⟩) rfl rfl rfl hl.1 (Nat.le_of_ble_eq_true rfl) d_S_markEndValues_43 ⟨Nat.zero_le _, Nat.zero_le _⟩) (fun H locs hw => ?_)
          refine lv_bipush (v := (-128)) hx hb d_S_markEndValues_46 (by decide) ?_
          refine lv_isub hx hb d_S_markEndValues_48 ?_
          refine lv_iconst (v := 1) hx hb d_S_markEndValues_49 (by decide) ?_
          obtain ⟨hi10, hf⟩ := zq_gs hf
          obtain ⟨σ11, e_σ11, hf⟩ := zq_ss hf
          refine zr_bast G hw 139 rfl rfl  hi10  d_S_markEndValues_50 (fun H locs hw => ?_)
          rw [← e_σ11] at hw
          exact K51 (zf_S_markEndValues_10 F n) ih x1 x2 σ11 H locs ls hf hw (lv_sub hl [0, 1, 2] rfl)
  unfold zf_S_markEndValues at hf
  refine lv_aload_n hx hb d_S_markEndValues_0 rfl (lv_at hl 0 rfl) ?_
  refine zr_get (ci := 0) G hw 1 8 zi_0 rfl rfl rfl (by decide) zm_507 (fun _ h => h) (v := .ref (ad 139)) rfl d_S_markEndValues_1 ?_
  refine lv_iconst (v := 0) hx hb d_S_markEndValues_4 (by decide) ?_
  obtain ⟨σ1, hc3, hf⟩ := zq_ds hf
  refine zr_cv hw (zr_runS (rest := []) G hw [.ref (ad 139), .int 0] (zc_Arrays_fillB0 hJ hc3) (va_cwS 2 hts (zs_gS zm_509 zm_510 zm_23 zm_508) rfl rfl rfl (by decide +kernel) ⟨Nat.le_trans (by decide) hR1, Nat.le_trans (by decide) hR2⟩) rfl hl.1 (Nat.le_of_ble_eq_true rfl) d_S_markEndValues_5 ⟨Nat.zero_le _, Nat.zero_le _⟩) (fun H locs hw => ?_)
  refine lv_iconst (v := 0) hx hb d_S_markEndValues_8 (by decide) ?_
  refine lv_istore_n hx hb d_S_markEndValues_9 rfl hl (by decide) rfl (fun ls hl => ?_)
  have hl : lv_has ls 3 [(2, .int 0), (0, .ref (ad 1)), (1, .int x1)] := hl
  exact K10 F x1 0 σ1 H locs ls hf hw (lv_sub hl [1, 2, 0] rfl)
/-! ScheduleCheck.outcome -/
def y_S_outcome : MethodName := ⟨"ScheduleCheck","outcome","(II)I"⟩
theorem d_S_outcome_0 : decode prog_1_method_16_code 0 = .ok (.aload_n 0, 1) := by decide +kernel
theorem d_S_outcome_1 : decode prog_1_method_16_code 1 = .ok (.getfield 37, 3) := by decide +kernel
theorem d_S_outcome_4 : decode prog_1_method_16_code 4 = .ok (.iload_n 1, 1) := by decide +kernel
theorem d_S_outcome_5 : decode prog_1_method_16_code 5 = .ok (.invokevirtual 123, 3) := by decide +kernel
theorem d_S_outcome_8 : decode prog_1_method_16_code 8 = .ok (.ifCond .ne 7, 3) := by decide +kernel
theorem d_S_outcome_11 : decode prog_1_method_16_code 11 = .ok (.sipush 1000, 3) := by decide +kernel
theorem d_S_outcome_14 : decode prog_1_method_16_code 14 = .ok (.ireturn, 1) := by decide +kernel
theorem d_S_outcome_15 : decode prog_1_method_16_code 15 = .ok (.aload_n 0, 1) := by decide +kernel
theorem d_S_outcome_16 : decode prog_1_method_16_code 16 = .ok (.iload_n 1, 1) := by decide +kernel
theorem d_S_outcome_17 : decode prog_1_method_16_code 17 = .ok (.invokevirtual 144, 3) := by decide +kernel
theorem d_S_outcome_20 : decode prog_1_method_16_code 20 = .ok (.sipush 1000, 3) := by decide +kernel
theorem d_S_outcome_23 : decode prog_1_method_16_code 23 = .ok (.istore_n 3, 1) := by decide +kernel
theorem d_S_outcome_24 : decode prog_1_method_16_code 24 = .ok (.sipush 1000, 3) := by decide +kernel
theorem d_S_outcome_27 : decode prog_1_method_16_code 27 = .ok (.istore 4, 2) := by decide +kernel
theorem d_S_outcome_29 : decode prog_1_method_16_code 29 = .ok (.iconst 0, 1) := by decide +kernel
theorem d_S_outcome_30 : decode prog_1_method_16_code 30 = .ok (.istore 5, 2) := by decide +kernel
theorem d_S_outcome_32 : decode prog_1_method_16_code 32 = .ok (.iconst 0, 1) := by decide +kernel
theorem d_S_outcome_33 : decode prog_1_method_16_code 33 = .ok (.istore 6, 2) := by decide +kernel
theorem d_S_outcome_35 : decode prog_1_method_16_code 35 = .ok (.iload 6, 2) := by decide +kernel
theorem d_S_outcome_37 : decode prog_1_method_16_code 37 = .ok (.sipush 256, 3) := by decide +kernel
theorem d_S_outcome_40 : decode prog_1_method_16_code 40 = .ok (.if_icmp .ge 41, 3) := by decide +kernel
theorem d_S_outcome_43 : decode prog_1_method_16_code 43 = .ok (.aload_n 0, 1) := by decide +kernel
theorem d_S_outcome_44 : decode prog_1_method_16_code 44 = .ok (.getfield 53, 3) := by decide +kernel
theorem d_S_outcome_47 : decode prog_1_method_16_code 47 = .ok (.iload 6, 2) := by decide +kernel
theorem d_S_outcome_49 : decode prog_1_method_16_code 49 = .ok (.baload, 1) := by decide +kernel
theorem d_S_outcome_50 : decode prog_1_method_16_code 50 = .ok (.ifCond .eq 25, 3) := by decide +kernel
theorem d_S_outcome_53 : decode prog_1_method_16_code 53 = .ok (.iload 6, 2) := by decide +kernel
theorem d_S_outcome_55 : decode prog_1_method_16_code 55 = .ok (.bipush (-128), 2) := by decide +kernel
theorem d_S_outcome_57 : decode prog_1_method_16_code 57 = .ok (.iadd, 1) := by decide +kernel
theorem d_S_outcome_58 : decode prog_1_method_16_code 58 = .ok (.istore 4, 2) := by decide +kernel
theorem d_S_outcome_60 : decode prog_1_method_16_code 60 = .ok (.iload 5, 2) := by decide +kernel
theorem d_S_outcome_62 : decode prog_1_method_16_code 62 = .ok (.ifCond .ne 8, 3) := by decide +kernel
theorem d_S_outcome_65 : decode prog_1_method_16_code 65 = .ok (.iload 4, 2) := by decide +kernel
theorem d_S_outcome_67 : decode prog_1_method_16_code 67 = .ok (.goto 4, 3) := by decide +kernel
theorem d_S_outcome_70 : decode prog_1_method_16_code 70 = .ok (.iload_n 3, 1) := by decide +kernel
theorem d_S_outcome_71 : decode prog_1_method_16_code 71 = .ok (.istore_n 3, 1) := by decide +kernel
theorem d_S_outcome_72 : decode prog_1_method_16_code 72 = .ok (.iinc 5 1, 3) := by decide +kernel
theorem d_S_outcome_75 : decode prog_1_method_16_code 75 = .ok (.iinc 6 1, 3) := by decide +kernel
theorem d_S_outcome_78 : decode prog_1_method_16_code 78 = .ok (.goto (-43), 3) := by decide +kernel
theorem d_S_outcome_81 : decode prog_1_method_16_code 81 = .ok (.iload_n 2, 1) := by decide +kernel
theorem d_S_outcome_82 : decode prog_1_method_16_code 82 = .ok (.tableswitch 45 0 2 #[26, 28, 31], 26) := by decide +kernel
theorem d_S_outcome_108 : decode prog_1_method_16_code 108 = .ok (.iload_n 3, 1) := by decide +kernel
theorem d_S_outcome_109 : decode prog_1_method_16_code 109 = .ok (.ireturn, 1) := by decide +kernel
theorem d_S_outcome_110 : decode prog_1_method_16_code 110 = .ok (.iload 4, 2) := by decide +kernel
theorem d_S_outcome_112 : decode prog_1_method_16_code 112 = .ok (.ireturn, 1) := by decide +kernel
theorem d_S_outcome_113 : decode prog_1_method_16_code 113 = .ok (.iload 5, 2) := by decide +kernel
theorem d_S_outcome_115 : decode prog_1_method_16_code 115 = .ok (.ifCond .ne 9, 3) := by decide +kernel
theorem d_S_outcome_118 : decode prog_1_method_16_code 118 = .ok (.sipush 1000, 3) := by decide +kernel
theorem d_S_outcome_121 : decode prog_1_method_16_code 121 = .ok (.goto 5, 3) := by decide +kernel
theorem d_S_outcome_124 : decode prog_1_method_16_code 124 = .ok (.iload 5, 2) := by decide +kernel
theorem d_S_outcome_126 : decode prog_1_method_16_code 126 = .ok (.ireturn, 1) := by decide +kernel
theorem d_S_outcome_127 : decode prog_1_method_16_code 127 = .ok (.sipush 1000, 3) := by decide +kernel
theorem d_S_outcome_130 : decode prog_1_method_16_code 130 = .ok (.ireturn, 1) := by decide +kernel
def zf_S_outcome_126 (F : Nat)  (t0 : Int32) (σ : zs_S) : Option (Int32 × zs_S) :=
  some (t0, σ)
def zf_S_outcome_75 (F : Nat) (k35 : Int32 → Int32 → Int32 → Int32 → Int32 → zs_S → Option (Int32 × zs_S)) (x2 : Int32) (x3 : Int32) (x4 : Int32) (x5 : Int32) (x6 : Int32) (σ : zs_S) : Option (Int32 × zs_S) :=
  zq_v (x6 + 1) fun v12 =>
  k35 x2 x3 x4 x5 v12 σ
def zf_S_outcome_71 (F : Nat) (k35 : Int32 → Int32 → Int32 → Int32 → Int32 → zs_S → Option (Int32 × zs_S)) (x2 : Int32) (x4 : Int32) (x5 : Int32) (x6 : Int32) (t0 : Int32) (σ : zs_S) : Option (Int32 × zs_S) :=
  zq_v (x5 + 1) fun v11 =>
  zf_S_outcome_75 F k35 x2 t0 x4 v11 x6 σ
def zf_S_outcome_35 (F : Nat)  : Nat → Int32 → Int32 → Int32 → Int32 → Int32 → zs_S → Option (Int32 × zs_S)
  | 0, _, _, _, _, _, _ => none
  | n + 1, x2, x3, x4, x5, x6, σ =>
    if 256 ≤ x6 then (
      if x2 = 0 then (
        some (x3, σ)
      ) else (
      if x2 = 1 then (
        some (x4, σ)
      ) else (
      if x2 = 2 then (
        if x5 = 0 then (
          zf_S_outcome_126 F 1000 σ
        ) else (
          zf_S_outcome_126 F x5 σ
        )
      ) else (
        some (1000, σ)
      )))
    ) else (
      zq_g (zq_b x6 256) <|
      if (zs_i σ 139 (x6).toNatClampNeg) = 0 then (
        zf_S_outcome_75 F (zf_S_outcome_35 F n) x2 x3 x4 x5 x6 σ
      ) else (
        zq_v (x6 + ((-128))) fun v10 =>
        if x5 = 0 then (
          zf_S_outcome_71 F (zf_S_outcome_35 F n) x2 v10 x5 x6 v10 σ
        ) else (
          zf_S_outcome_71 F (zf_S_outcome_35 F n) x2 v10 x5 x6 x3 σ
        )
      )
    )
def zf_S_outcome (F : Nat) (x1 : Int32) (x2 : Int32) (σ : zs_S) : Option (Int32 × zs_S) :=
  zq_q (zs_r σ 1 6) fun q1 =>
  zq_g (zq_k 0 q1 15) <|
  zq_c (zf_Program_hasVariable F q1 x1 σ) fun r3 σ2 =>
  if r3 = 0 then (
    some (1000, σ2)
  ) else (
    zq_d (zf_S_markEndValues F x1 σ2) fun σ6 =>
    zf_S_outcome_35 F F x2 1000 1000 0 0 σ6
  )
set_option maxHeartbeats 4000000 in
set_option maxRecDepth 100000 in
theorem zc_S_outcome {l : Launch} {D : va_G} {cA : Nat → ClassId} {ad : Nat → Nat} {A : Nat → Prop} {F : Nat} {x1 : Int32} {x2 : Int32} {σ : zs_S} {q : Int32 × zs_S} (hJ : zs_J ad) (hf : zf_S_outcome F x1 x2 σ = some q) : Met l y_S_outcome (.code y_S_outcome prog_1_method_16_code 7 (some .int) :: zd_ww) { frames := 4, cells := 0, slots := 0, locals := 89 } (va_Pc [.ref (ad 1), .int x1, .int x2] (zs_U 0 D cA ad A σ)) (zs_Qi 0 D cA ad A q) 0 0 A := by
  refine Met.ofW (cc := prog_1_method_16_code) (maxL := 7) (ret := (some .int)) (by decide) rfl ?_
  intro p e s m args below meth c s₁ B hml hv
  obtain ⟨hargs, hP, hK, hD, hZ⟩ := hv
  have G : zs_G 0 p s m args c prog_1_method_16_code 7 "ScheduleCheck" D cA ad A := ⟨⟨B.exec, B.bytes, hml, findClass_of_methodNamed B.named, fun w h => atoms_spec B.pre w (List.mem_cons_of_mem _ h)⟩, hK, hJ, hZ⟩
  have hw : zs_I 0 D cA ad A s σ s.heap [] := ⟨hP, hD, va_S.rf⟩
  have hx := G.1.1
  have hb := G.1.2.1
  have hown := G.1.2.2.2.1
  have hts := G.1.2.2.2.2
  have hr := B.returns
  have hlocks := B.notSynchronized
  have he : entryFrame m args 7 = F0 m 0 ((lg_sl [.ref (ad 1), .int x1, .int x2] ++ List.replicate (7 - (lg_sl [.ref (ad 1), .int x1, .int x2]).length) Slot.unset).toArray) [] := by rw [hargs]; exact lg_entry_eq m _ 7
  have hl := lv_entry [.ref (ad 1), .int x1, .int x2] (n := 7) (Nat.le_of_ble_eq_true rfl)
  rw [he]
  generalize (lg_sl [.ref (ad 1), .int x1, .int x2] ++ List.replicate (7 - (lg_sl [.ref (ad 1), .int x1, .int x2]).length) Slot.unset).toArray = ls at hl
  have hl : lv_has ls 7 [(0, .ref (ad 1)), (1, .int x1), (2, .int x2)] := hl
  obtain ⟨RR, hR⟩ : ∃ z, z = (headSpec (.code y_S_outcome prog_1_method_16_code 7 (some .int) :: zd_ww) { frames := 4, cells := 0, slots := 0, locals := 89 }).room := ⟨_, rfl⟩
  rw [← hR]
  obtain ⟨QQ, hQ⟩ : ∃ z, z = MQ below (zs_Qi 0 D cA ad A q) args s 0 0 A := ⟨_, rfl⟩
  rw [← hQ]
  have hR1 : 4 ≤ RR.frames := by rw [hR]; exact Nat.le_refl _
  have hR2 : 89 ≤ RR.locals := by rw [hR]; exact Nat.le_refl _
  generalize s.heap = H at hw ⊢
  generalize ([] : List Loc) = locs at hw ⊢
  have K126 : ∀ (t0 : Int32) (σ : zs_S) (H : Heap) (locs : List Loc) (ls : Array Slot), zf_S_outcome_126 F t0 σ = some q → zs_I 0 D cA ad A s σ H locs → lv_has ls 7 [] → W p l e RR s m args below meth c H locs 0 0 QQ (F0 m 126 ls [.int t0]) := by
    intro  t0 σ H locs ls hf hw hl
    unfold zf_S_outcome_126 at hf
    exact zr_iret G hw hr hlocks hf hQ d_S_outcome_126
  have K75 : ∀ (k35 : Int32 → Int32 → Int32 → Int32 → Int32 → zs_S → Option (Int32 × zs_S)) (hk35 : ∀ (x2 : Int32) (x3 : Int32) (x4 : Int32) (x5 : Int32) (x6 : Int32) (σ : zs_S) (H : Heap) (locs : List Loc) (ls : Array Slot), k35 x2 x3 x4 x5 x6 σ = some q → zs_I 0 D cA ad A s σ H locs → lv_has ls 7 [(0, .ref (ad 1)), (2, .int x2), (3, .int x3), (4, .int x4), (5, .int x5), (6, .int x6)] → W p l e RR s m args below meth c H locs 0 0 QQ (F0 m 35 ls [])) (x2 : Int32) (x3 : Int32) (x4 : Int32) (x5 : Int32) (x6 : Int32) (σ : zs_S) (H : Heap) (locs : List Loc) (ls : Array Slot), zf_S_outcome_75 F k35 x2 x3 x4 x5 x6 σ = some q → zs_I 0 D cA ad A s σ H locs → lv_has ls 7 [(0, .ref (ad 1)), (2, .int x2), (3, .int x3), (4, .int x4), (5, .int x5), (6, .int x6)] → W p l e RR s m args below meth c H locs 0 0 QQ (F0 m 75 ls []) := by
    intro k35 hk35 x2 x3 x4 x5 x6 σ H locs ls hf hw hl
    unfold zf_S_outcome_75 at hf
    obtain ⟨v12, e_v12, hf⟩ := zq_ss hf
    refine lv_iinc (v := v12) hx hb d_S_outcome_75 hl (k := 5) rfl (zq_inc (k := 1) (by decide) e_v12) (by decide) rfl (fun ls hl => ?_)
    have hl : lv_has ls 7 [(6, .int v12), (0, .ref (ad 1)), (2, .int x2), (3, .int x3), (4, .int x4), (5, .int x5)] := hl
    refine lv_goto hx hb d_S_outcome_78 (tgt := 35) rfl ?_
    exact hk35 x2 x3 x4 x5 v12 σ H locs ls hf hw (lv_sub hl [1, 2, 3, 4, 5, 0] rfl)
  have K71 : ∀ (k35 : Int32 → Int32 → Int32 → Int32 → Int32 → zs_S → Option (Int32 × zs_S)) (hk35 : ∀ (x2 : Int32) (x3 : Int32) (x4 : Int32) (x5 : Int32) (x6 : Int32) (σ : zs_S) (H : Heap) (locs : List Loc) (ls : Array Slot), k35 x2 x3 x4 x5 x6 σ = some q → zs_I 0 D cA ad A s σ H locs → lv_has ls 7 [(0, .ref (ad 1)), (2, .int x2), (3, .int x3), (4, .int x4), (5, .int x5), (6, .int x6)] → W p l e RR s m args below meth c H locs 0 0 QQ (F0 m 35 ls [])) (x2 : Int32) (x4 : Int32) (x5 : Int32) (x6 : Int32) (t0 : Int32) (σ : zs_S) (H : Heap) (locs : List Loc) (ls : Array Slot), zf_S_outcome_71 F k35 x2 x4 x5 x6 t0 σ = some q → zs_I 0 D cA ad A s σ H locs → lv_has ls 7 [(0, .ref (ad 1)), (2, .int x2), (4, .int x4), (5, .int x5), (6, .int x6)] → W p l e RR s m args below meth c H locs 0 0 QQ (F0 m 71 ls [.int t0]) := by
    intro k35 hk35 x2 x4 x5 x6 t0 σ H locs ls hf hw hl
    unfold zf_S_outcome_71 at hf
    refine lv_istore_n hx hb d_S_outcome_71 rfl hl (by decide) rfl (fun ls hl => ?_)
    have hl : lv_has ls 7 [(3, .int t0), (0, .ref (ad 1)), (2, .int x2), (4, .int x4), (5, .int x5), (6, .int x6)] := hl
    obtain ⟨v11, e_v11, hf⟩ := zq_ss hf
    refine lv_iinc (v := v11) hx hb d_S_outcome_72 hl (k := 4) rfl (zq_inc (k := 1) (by decide) e_v11) (by decide) rfl (fun ls hl => ?_)
    have hl : lv_has ls 7 [(5, .int v11), (3, .int t0), (0, .ref (ad 1)), (2, .int x2), (4, .int x4), (6, .int x6)] := hl
    exact K75 k35 hk35 x2 t0 x4 v11 x6 σ H locs ls hf hw (lv_sub hl [2, 3, 1, 4, 0, 5] rfl)
  have K35 : ∀ (n : Nat) (x2 : Int32) (x3 : Int32) (x4 : Int32) (x5 : Int32) (x6 : Int32) (σ : zs_S) (H : Heap) (locs : List Loc) (ls : Array Slot), zf_S_outcome_35 F n x2 x3 x4 x5 x6 σ = some q → zs_I 0 D cA ad A s σ H locs → lv_has ls 7 [(0, .ref (ad 1)), (2, .int x2), (3, .int x3), (4, .int x4), (5, .int x5), (6, .int x6)] → W p l e RR s m args below meth c H locs 0 0 QQ (F0 m 35 ls []) := by
    intro  n
    induction n with
    | zero => intro x2 x3 x4 x5 x6 σ H locs ls hf hw hl; exact nomatch (show (none : Option (Int32 × zs_S)) = some q from hf)
    | succ n ih =>
      intro x2 x3 x4 x5 x6 σ H locs ls hf hw hl
      rw [zf_S_outcome_35] at hf
      refine lv_iload hx hb d_S_outcome_35 (lv_at hl 5 rfl) ?_
      refine lv_sipush (v := 256) hx hb d_S_outcome_37 (by decide) ?_
      refine lv_icmp_ge hx hb d_S_outcome_40 (tgt := 81) rfl (fun hc => ?_) (fun hc => ?_)
      · have hf := (if_pos hc).symm.trans hf
        refine lv_iload_n hx hb d_S_outcome_81 rfl (lv_at hl 1 rfl) ?_
        by_cases hc0 : x2 = 0
        · have hf := (if_pos hc0).symm.trans hf
          refine lv_tableIn hx hb d_S_outcome_82 (tgt := 108) (by rw [hc0]; decide) (by rw [hc0]; decide) (by rw [hc0]; rfl) rfl ?_
          refine lv_iload_n hx hb d_S_outcome_108 rfl (lv_at hl 2 rfl) ?_
          exact zr_iret G hw hr hlocks hf hQ d_S_outcome_109
        have hf := (if_neg hc0).symm.trans hf
        by_cases hc1 : x2 = 1
        · have hf := (if_pos hc1).symm.trans hf
          refine lv_tableIn hx hb d_S_outcome_82 (tgt := 110) (by rw [hc1]; decide) (by rw [hc1]; decide) (by rw [hc1]; rfl) rfl ?_
          refine lv_iload hx hb d_S_outcome_110 (lv_at hl 3 rfl) ?_
          exact zr_iret G hw hr hlocks hf hQ d_S_outcome_112
        have hf := (if_neg hc1).symm.trans hf
        by_cases hc2 : x2 = 2
        · have hf := (if_pos hc2).symm.trans hf
          refine lv_tableIn hx hb d_S_outcome_82 (tgt := 113) (by rw [hc2]; decide) (by rw [hc2]; decide) (by rw [hc2]; rfl) rfl ?_
          refine lv_iload hx hb d_S_outcome_113 (lv_at hl 4 rfl) ?_
          refine lv_if_ne hx hb d_S_outcome_115 (tgt := 124) rfl (fun hc => ?_) (fun hc => ?_)
          · have hf := (if_neg hc).symm.trans hf
            refine lv_iload hx hb d_S_outcome_124 (lv_at hl 4 rfl) ?_
            exact K126 x5 σ H locs ls hf hw (lv_sub hl [] rfl)
          · have hf := (if_pos hc).symm.trans hf
            refine lv_sipush (v := 1000) hx hb d_S_outcome_118 (by decide) ?_
            refine lv_goto hx hb d_S_outcome_121 (tgt := 126) rfl ?_
            exact K126 1000 σ H locs ls hf hw (lv_sub hl [] rfl)
        have hf := (if_neg hc2).symm.trans hf
        refine lv_tableOut hx hb d_S_outcome_82 (tgt := 127) (by have g0 := zq_o1 (lo := 0) (by decide) hc0; have g1 := zq_o1 (lo := 1) (by decide) hc1; have g2 := zq_o1 (lo := 2) (by decide) hc2; omega) rfl ?_
        refine lv_sipush (v := 1000) hx hb d_S_outcome_127 (by decide) ?_
        exact zr_iret G hw hr hlocks hf hQ d_S_outcome_130
      · have hf := (if_neg hc).symm.trans hf
        refine lv_aload_n hx hb d_S_outcome_43 rfl (lv_at hl 0 rfl) ?_
        refine zr_get (ci := 0) G hw 1 8 zi_0 rfl rfl rfl (by decide) zm_507 (fun _ h => h) (v := .ref (ad 139)) rfl d_S_outcome_44 ?_
        refine lv_iload hx hb d_S_outcome_47 (lv_at hl 5 rfl) ?_
        obtain ⟨hi9, hf⟩ := zq_gs hf
        refine zr_bald G hw 139 rfl rfl hi9 d_S_outcome_49 ?_
        refine lv_if_eq hx hb d_S_outcome_50 (tgt := 75) rfl (fun hc => ?_) (fun hc => ?_)
        · have hf := (if_pos hc).symm.trans hf
          exact K75 (zf_S_outcome_35 F n) ih x2 x3 x4 x5 x6 σ H locs ls hf hw (lv_sub hl [0, 1, 2, 3, 4, 5] rfl)
        · have hf := (if_neg hc).symm.trans hf
          refine lv_iload hx hb d_S_outcome_53 (lv_at hl 5 rfl) ?_
          refine lv_bipush (v := (-128)) hx hb d_S_outcome_55 (by decide) ?_
          refine lv_iadd hx hb d_S_outcome_57 ?_
          refine lv_topi (fun v10 e_v10 => ?_)
          have hf := zq_vs e_v10 hf
          refine lv_istore hx hb d_S_outcome_58 hl (by decide) rfl (fun ls hl => ?_)
          have hl : lv_has ls 7 [(4, .int v10), (0, .ref (ad 1)), (2, .int x2), (3, .int x3), (5, .int x5), (6, .int x6)] := hl
          refine lv_iload hx hb d_S_outcome_60 (lv_at hl 4 rfl) ?_
          refine lv_if_ne hx hb d_S_outcome_62 (tgt := 70) rfl (fun hc => ?_) (fun hc => ?_)
          · have hf := (if_neg hc).symm.trans hf
            refine lv_iload_n hx hb d_S_outcome_70 rfl (lv_at hl 3 rfl) ?_
            exact K71 (zf_S_outcome_35 F n) ih x2 v10 x5 x6 x3 σ H locs ls hf hw (lv_sub hl [1, 2, 0, 4, 5] rfl)
          · have hf := (if_pos hc).symm.trans hf
            refine lv_iload hx hb d_S_outcome_65 (lv_at hl 0 rfl) ?_
            refine lv_goto hx hb d_S_outcome_67 (tgt := 71) rfl ?_
            exact K71 (zf_S_outcome_35 F n) ih x2 v10 x5 x6 v10 σ H locs ls hf hw (lv_sub hl [1, 2, 0, 4, 5] rfl)
  unfold zf_S_outcome at hf
  refine lv_aload_n hx hb d_S_outcome_0 rfl (lv_at hl 0 rfl) ?_
  obtain ⟨q1, e_q1, h_q1, hf⟩ := zq_qs hf
  refine zr_get (ci := 0) G hw 1 6 zi_0 rfl rfl rfl (by decide) zm_456 (fun _ h => h) (v := .ref (ad q1)) (zs_fr rfl e_q1 h_q1) d_S_outcome_1 ?_
  refine lv_iload_n hx hb d_S_outcome_4 rfl (lv_at hl 1 rfl) ?_
  obtain ⟨hs5, hf⟩ := zq_gs hf
  have hs5 := zq_ks hs5
  obtain ⟨r3, σ2, hc4, hf⟩ := zq_cs hf
  refine zr_ci hw (zr_runV (rest := []) (ci := 5) (o := q1) G hw [.int x1] (zc_Program_hasVariable hJ hc4) (cwV 1 hts (zs_gV zm_495 zm_496 zm_497 zm_116 zm_494) rfl rfl rfl (by decide +kernel) ⟨Nat.le_trans (by decide) hR1, Nat.le_trans (by decide) hR2⟩) hs5 rfl rfl hl.1 (Nat.le_of_ble_eq_true rfl) d_S_outcome_5 ⟨Nat.zero_le _, Nat.zero_le _⟩) (fun H locs hw => ?_)
  refine lv_if_ne hx hb d_S_outcome_8 (tgt := 15) rfl (fun hc => ?_) (fun hc => ?_)
  · have hf := (if_neg hc).symm.trans hf
    refine lv_aload_n hx hb d_S_outcome_15 rfl (lv_at hl 0 rfl) ?_
    refine lv_iload_n hx hb d_S_outcome_16 rfl (lv_at hl 1 rfl) ?_
    obtain ⟨σ6, hc8, hf⟩ := zq_ds hf
    refine zr_cv hw (zr_runV (rest := []) (ci := 0) (o := 1) G hw [.int x1] (zc_S_markEndValues hJ hc8) (cwV 1 hts (zs_gV zm_512 zm_513 zm_514 zm_316 zm_511) rfl rfl rfl (by decide +kernel) ⟨Nat.le_trans (by decide) hR1, Nat.le_trans (by decide) hR2⟩) rfl rfl rfl hl.1 (Nat.le_of_ble_eq_true rfl) d_S_outcome_17 ⟨Nat.zero_le _, Nat.zero_le _⟩) (fun H locs hw => ?_)
    refine lv_sipush (v := 1000) hx hb d_S_outcome_20 (by decide) ?_
    refine lv_istore_n hx hb d_S_outcome_23 rfl hl (by decide) rfl (fun ls hl => ?_)
    have hl : lv_has ls 7 [(3, .int 1000), (0, .ref (ad 1)), (1, .int x1), (2, .int x2)] := hl
    refine lv_sipush (v := 1000) hx hb d_S_outcome_24 (by decide) ?_
    refine lv_istore hx hb d_S_outcome_27 hl (by decide) rfl (fun ls hl => ?_)
    have hl : lv_has ls 7 [(4, .int 1000), (3, .int 1000), (0, .ref (ad 1)), (1, .int x1), (2, .int x2)] := hl
    refine lv_iconst (v := 0) hx hb d_S_outcome_29 (by decide) ?_
    refine lv_istore hx hb d_S_outcome_30 hl (by decide) rfl (fun ls hl => ?_)
    have hl : lv_has ls 7 [(5, .int 0), (4, .int 1000), (3, .int 1000), (0, .ref (ad 1)), (1, .int x1), (2, .int x2)] := hl
    refine lv_iconst (v := 0) hx hb d_S_outcome_32 (by decide) ?_
    refine lv_istore hx hb d_S_outcome_33 hl (by decide) rfl (fun ls hl => ?_)
    have hl : lv_has ls 7 [(6, .int 0), (5, .int 0), (4, .int 1000), (3, .int 1000), (0, .ref (ad 1)), (1, .int x1), (2, .int x2)] := hl
    exact K35 F x2 1000 1000 0 0 σ6 H locs ls hf hw (lv_sub hl [4, 6, 3, 2, 1, 0] rfl)
  · have hf := (if_pos hc).symm.trans hf
    refine lv_sipush (v := 1000) hx hb d_S_outcome_11 (by decide) ?_
    exact zr_iret G hw hr hlocks hf hQ d_S_outcome_14
/-! ScheduleCheck.race -/
def y_S_race : MethodName := ⟨"ScheduleCheck","race","(I)I"⟩
theorem d_S_race_0 : decode prog_1_method_18_code 0 = .ok (.aload_n 0, 1) := by decide +kernel
theorem d_S_race_1 : decode prog_1_method_18_code 1 = .ok (.getfield 37, 3) := by decide +kernel
theorem d_S_race_4 : decode prog_1_method_18_code 4 = .ok (.iload_n 1, 1) := by decide +kernel
theorem d_S_race_5 : decode prog_1_method_18_code 5 = .ok (.invokevirtual 123, 3) := by decide +kernel
theorem d_S_race_8 : decode prog_1_method_18_code 8 = .ok (.ifCond .ne 6, 3) := by decide +kernel
theorem d_S_race_11 : decode prog_1_method_18_code 11 = .ok (.bipush (-2), 2) := by decide +kernel
theorem d_S_race_13 : decode prog_1_method_18_code 13 = .ok (.ireturn, 1) := by decide +kernel
theorem d_S_race_14 : decode prog_1_method_18_code 14 = .ok (.iconst 0, 1) := by decide +kernel
theorem d_S_race_15 : decode prog_1_method_18_code 15 = .ok (.istore_n 2, 1) := by decide +kernel
theorem d_S_race_16 : decode prog_1_method_18_code 16 = .ok (.iload_n 2, 1) := by decide +kernel
theorem d_S_race_17 : decode prog_1_method_18_code 17 = .ok (.aload_n 0, 1) := by decide +kernel
theorem d_S_race_18 : decode prog_1_method_18_code 18 = .ok (.getfield 30, 3) := by decide +kernel
theorem d_S_race_21 : decode prog_1_method_18_code 21 = .ok (.getfield 80, 3) := by decide +kernel
theorem d_S_race_24 : decode prog_1_method_18_code 24 = .ok (.if_icmp .ge 23, 3) := by decide +kernel
theorem d_S_race_27 : decode prog_1_method_18_code 27 = .ok (.aload_n 0, 1) := by decide +kernel
theorem d_S_race_28 : decode prog_1_method_18_code 28 = .ok (.getfield 49, 3) := by decide +kernel
theorem d_S_race_31 : decode prog_1_method_18_code 31 = .ok (.iload_n 2, 1) := by decide +kernel
theorem d_S_race_32 : decode prog_1_method_18_code 32 = .ok (.iload_n 1, 1) := by decide +kernel
theorem d_S_race_33 : decode prog_1_method_18_code 33 = .ok (.invokevirtual 153, 3) := by decide +kernel
theorem d_S_race_36 : decode prog_1_method_18_code 36 = .ok (.ifCond .eq 5, 3) := by decide +kernel
theorem d_S_race_39 : decode prog_1_method_18_code 39 = .ok (.iload_n 2, 1) := by decide +kernel
theorem d_S_race_40 : decode prog_1_method_18_code 40 = .ok (.ireturn, 1) := by decide +kernel
theorem d_S_race_41 : decode prog_1_method_18_code 41 = .ok (.iinc 2 1, 3) := by decide +kernel
theorem d_S_race_44 : decode prog_1_method_18_code 44 = .ok (.goto (-28), 3) := by decide +kernel
theorem d_S_race_47 : decode prog_1_method_18_code 47 = .ok (.bipush (-2), 2) := by decide +kernel
theorem d_S_race_49 : decode prog_1_method_18_code 49 = .ok (.ireturn, 1) := by decide +kernel
def zf_S_race_16 (F : Nat)  : Nat → Int32 → Int32 → zs_S → Option (Int32 × zs_S)
  | 0, _, _, _ => none
  | n + 1, x1, x2, σ =>
    if (zs_i σ 10 9) ≤ x2 then (
      some ((-2), σ)
    ) else (
      zq_c (zf_Explorer_isRace F x2 x1 σ) fun r7 σ6 =>
      if r7 = 0 then (
        zq_v (x2 + 1) fun v9 =>
        (zf_S_race_16 F n) x1 v9 σ6
      ) else (
        some (x2, σ6)
      )
    )
def zf_S_race (F : Nat) (x1 : Int32) (σ : zs_S) : Option (Int32 × zs_S) :=
  zq_q (zs_r σ 1 6) fun q1 =>
  zq_g (zq_k 0 q1 15) <|
  zq_c (zf_Program_hasVariable F q1 x1 σ) fun r3 σ2 =>
  if r3 = 0 then (
    some ((-2), σ2)
  ) else (
    zf_S_race_16 F F x1 0 σ2
  )
set_option maxHeartbeats 4000000 in
set_option maxRecDepth 100000 in
theorem zc_S_race {l : Launch} {D : va_G} {cA : Nat → ClassId} {ad : Nat → Nat} {A : Nat → Prop} {F : Nat} {x1 : Int32} {σ : zs_S} {q : Int32 × zs_S} (hJ : zs_J ad) (hf : zf_S_race F x1 σ = some q) : Met l y_S_race (.code y_S_race prog_1_method_18_code 3 (some .int) :: zd_ww) { frames := 4, cells := 0, slots := 0, locals := 95 } (va_Pc [.ref (ad 1), .int x1] (zs_U 0 D cA ad A σ)) (zs_Qi 0 D cA ad A q) 0 0 A := by
  refine Met.ofW (cc := prog_1_method_18_code) (maxL := 3) (ret := (some .int)) (by decide) rfl ?_
  intro p e s m args below meth c s₁ B hml hv
  obtain ⟨hargs, hP, hK, hD, hZ⟩ := hv
  have G : zs_G 0 p s m args c prog_1_method_18_code 3 "ScheduleCheck" D cA ad A := ⟨⟨B.exec, B.bytes, hml, findClass_of_methodNamed B.named, fun w h => atoms_spec B.pre w (List.mem_cons_of_mem _ h)⟩, hK, hJ, hZ⟩
  have hw : zs_I 0 D cA ad A s σ s.heap [] := ⟨hP, hD, va_S.rf⟩
  have hx := G.1.1
  have hb := G.1.2.1
  have hown := G.1.2.2.2.1
  have hts := G.1.2.2.2.2
  have hr := B.returns
  have hlocks := B.notSynchronized
  have he : entryFrame m args 3 = F0 m 0 ((lg_sl [.ref (ad 1), .int x1] ++ List.replicate (3 - (lg_sl [.ref (ad 1), .int x1]).length) Slot.unset).toArray) [] := by rw [hargs]; exact lg_entry_eq m _ 3
  have hl := lv_entry [.ref (ad 1), .int x1] (n := 3) (Nat.le_of_ble_eq_true rfl)
  rw [he]
  generalize (lg_sl [.ref (ad 1), .int x1] ++ List.replicate (3 - (lg_sl [.ref (ad 1), .int x1]).length) Slot.unset).toArray = ls at hl
  have hl : lv_has ls 3 [(0, .ref (ad 1)), (1, .int x1)] := hl
  obtain ⟨RR, hR⟩ : ∃ z, z = (headSpec (.code y_S_race prog_1_method_18_code 3 (some .int) :: zd_ww) { frames := 4, cells := 0, slots := 0, locals := 95 }).room := ⟨_, rfl⟩
  rw [← hR]
  obtain ⟨QQ, hQ⟩ : ∃ z, z = MQ below (zs_Qi 0 D cA ad A q) args s 0 0 A := ⟨_, rfl⟩
  rw [← hQ]
  have hR1 : 4 ≤ RR.frames := by rw [hR]; exact Nat.le_refl _
  have hR2 : 95 ≤ RR.locals := by rw [hR]; exact Nat.le_refl _
  generalize s.heap = H at hw ⊢
  generalize ([] : List Loc) = locs at hw ⊢
  have K16 : ∀ (n : Nat) (x1 : Int32) (x2 : Int32) (σ : zs_S) (H : Heap) (locs : List Loc) (ls : Array Slot), zf_S_race_16 F n x1 x2 σ = some q → zs_I 0 D cA ad A s σ H locs → lv_has ls 3 [(0, .ref (ad 1)), (1, .int x1), (2, .int x2)] → W p l e RR s m args below meth c H locs 0 0 QQ (F0 m 16 ls []) := by
    intro  n
    induction n with
    | zero => intro x1 x2 σ H locs ls hf hw hl; exact nomatch (show (none : Option (Int32 × zs_S)) = some q from hf)
    | succ n ih =>
      intro x1 x2 σ H locs ls hf hw hl
      rw [zf_S_race_16] at hf
      refine lv_iload_n hx hb d_S_race_16 rfl (lv_at hl 2 rfl) ?_
      refine lv_aload_n hx hb d_S_race_17 rfl (lv_at hl 0 rfl) ?_
      refine zr_get (ci := 0) G hw 1 4 zi_0 rfl rfl rfl (by decide) zm_463 (fun _ h => h) (v := .ref (ad 10)) rfl d_S_race_18 ?_
      refine zr_get (ci := 3) G hw 10 9 zi_3 rfl rfl rfl (by decide) zm_469 (fun _ h => h) (v := .int (zs_i σ 10 9)) rfl d_S_race_21 ?_
      refine lv_icmp_ge hx hb d_S_race_24 (tgt := 47) rfl (fun hc => ?_) (fun hc => ?_)
      · have hf := (if_pos hc).symm.trans hf
        refine lv_bipush (v := (-2)) hx hb d_S_race_47 (by decide) ?_
        exact zr_iret G hw hr hlocks hf hQ d_S_race_49
      · have hf := (if_neg hc).symm.trans hf
        refine lv_aload_n hx hb d_S_race_27 rfl (lv_at hl 0 rfl) ?_
        refine zr_get (ci := 0) G hw 1 5 zi_0 rfl rfl rfl (by decide) zm_457 (fun _ h => h) (v := .ref (ad 138)) rfl d_S_race_28 ?_
        refine lv_iload_n hx hb d_S_race_31 rfl (lv_at hl 2 rfl) ?_
        refine lv_iload_n hx hb d_S_race_32 rfl (lv_at hl 1 rfl) ?_
        obtain ⟨r7, σ6, hc8, hf⟩ := zq_cs hf
        refine zr_ci hw (zr_runV (rest := []) (ci := 4) (o := 138) G hw [.int x2, .int x1] (zc_Explorer_isRace hJ hc8) (cwV 2 hts (zs_gV zm_516 zm_517 zm_518 zm_152 zm_515) rfl rfl rfl (by decide +kernel) ⟨Nat.le_trans (by decide) hR1, Nat.le_trans (by decide) hR2⟩) rfl rfl rfl hl.1 (Nat.le_of_ble_eq_true rfl) d_S_race_33 ⟨Nat.zero_le _, Nat.zero_le _⟩) (fun H locs hw => ?_)
        refine lv_if_eq hx hb d_S_race_36 (tgt := 41) rfl (fun hc => ?_) (fun hc => ?_)
        · have hf := (if_pos hc).symm.trans hf
          obtain ⟨v9, e_v9, hf⟩ := zq_ss hf
          refine lv_iinc (v := v9) hx hb d_S_race_41 hl (k := 2) rfl (zq_inc (k := 1) (by decide) e_v9) (by decide) rfl (fun ls hl => ?_)
          have hl : lv_has ls 3 [(2, .int v9), (0, .ref (ad 1)), (1, .int x1)] := hl
          refine lv_goto hx hb d_S_race_44 (tgt := 16) rfl ?_
          exact ih x1 v9 σ6 H locs ls hf hw (lv_sub hl [1, 2, 0] rfl)
        · have hf := (if_neg hc).symm.trans hf
          refine lv_iload_n hx hb d_S_race_39 rfl (lv_at hl 2 rfl) ?_
          exact zr_iret G hw hr hlocks hf hQ d_S_race_40
  unfold zf_S_race at hf
  refine lv_aload_n hx hb d_S_race_0 rfl (lv_at hl 0 rfl) ?_
  obtain ⟨q1, e_q1, h_q1, hf⟩ := zq_qs hf
  refine zr_get (ci := 0) G hw 1 6 zi_0 rfl rfl rfl (by decide) zm_456 (fun _ h => h) (v := .ref (ad q1)) (zs_fr rfl e_q1 h_q1) d_S_race_1 ?_
  refine lv_iload_n hx hb d_S_race_4 rfl (lv_at hl 1 rfl) ?_
  obtain ⟨hs5, hf⟩ := zq_gs hf
  have hs5 := zq_ks hs5
  obtain ⟨r3, σ2, hc4, hf⟩ := zq_cs hf
  refine zr_ci hw (zr_runV (rest := []) (ci := 5) (o := q1) G hw [.int x1] (zc_Program_hasVariable hJ hc4) (cwV 1 hts (zs_gV zm_495 zm_496 zm_497 zm_116 zm_494) rfl rfl rfl (by decide +kernel) ⟨Nat.le_trans (by decide) hR1, Nat.le_trans (by decide) hR2⟩) hs5 rfl rfl hl.1 (Nat.le_of_ble_eq_true rfl) d_S_race_5 ⟨Nat.zero_le _, Nat.zero_le _⟩) (fun H locs hw => ?_)
  refine lv_if_ne hx hb d_S_race_8 (tgt := 14) rfl (fun hc => ?_) (fun hc => ?_)
  · have hf := (if_neg hc).symm.trans hf
    refine lv_iconst (v := 0) hx hb d_S_race_14 (by decide) ?_
    refine lv_istore_n hx hb d_S_race_15 rfl hl (by decide) rfl (fun ls hl => ?_)
    have hl : lv_has ls 3 [(2, .int 0), (0, .ref (ad 1)), (1, .int x1)] := hl
    exact K16 F x1 0 σ2 H locs ls hf hw (lv_sub hl [1, 2, 0] rfl)
  · have hf := (if_pos hc).symm.trans hf
    refine lv_bipush (v := (-2)) hx hb d_S_race_11 (by decide) ?_
    exact zr_iret G hw hr hlocks hf hQ d_S_race_13
