def y_M_atom : MethodName := ⟨"ScheduleCheckModel","atom","(I)Z"⟩
/-! ScheduleCheckModel.product -/
def y_M_product : MethodName := ⟨"ScheduleCheckModel","product","(I)Z"⟩
def zf_M_product_10 (kA : Int32 → zs_S → Option (Int32 × zs_S)) (F : Nat)  : Nat → Int32 → zs_S → Option (Int32 × zs_S)
  | 0, _, _ => none
  | n + 1, x1, σ =>
    zq_c (zf_M_is F 1330 σ) fun r5 σ4 =>
    if r5 = 0 then (
      some (1, σ4)
    ) else (
      zq_d (zf_M_step F σ4) fun σ7 =>
      zq_c (kA x1 σ7) fun r11 σ10 =>
      if r11 = 0 then (
        some (0, σ10)
      ) else (
        zq_d (zf_M_put F 5 σ10) fun σ13 =>
        (zf_M_product_10 kA F n) x1 σ13
      )
    )
def zf_M_product (kA : Int32 → zs_S → Option (Int32 × zs_S)) (F : Nat) (x1 : Int32) (σ : zs_S) : Option (Int32 × zs_S) :=
  zq_c (kA x1 σ) fun r2 σ1 =>
  if r2 = 0 then (
    some (0, σ1)
  ) else (
    zf_M_product_10 kA F F x1 σ1
  )
set_option maxHeartbeats 4000000 in
set_option maxRecDepth 100000 in
theorem zc_M_product {l : Launch} {D : va_G} {cA : Nat → ClassId} {ad : Nat → Nat} {A : Nat → Prop} {F : Nat} {x1 : Int32} {σ : zs_S} {q : Int32 × zs_S} {kA : Int32 → zs_S → Option (Int32 × zs_S)} {fA lA : Nat} (hA : ∀ {x1 : Int32} {σ : zs_S} {q : Int32 × zs_S}, kA x1 σ = some q → Met l y_M_atom (.code y_M_atom prog_13_method_26_code 4 (some .boolean) :: zd_ww) { frames := fA, cells := 0, slots := 0, locals := lA } (va_Pc [.ref (ad 1), .int x1] (zs_U 1 D cA ad A σ)) (zs_Qi 1 D cA ad A q) 0 0 A) (hJ : zs_J ad) (hf : zf_M_product kA F x1 σ = some q) : Met l y_M_product (.code y_M_product prog_13_method_25_code 2 (some .boolean) :: zd_ww) { frames := fA + 5, cells := 0, slots := 0, locals := lA + 107 } (va_Pc [.ref (ad 1), .int x1] (zs_U 1 D cA ad A σ)) (zs_Qi 1 D cA ad A q) 0 0 A := by
  refine Met.ofW (cc := prog_13_method_25_code) (maxL := 2) (ret := (some .boolean)) (by decide) rfl ?_
  intro p e s m args below meth c s₁ B hml hv
  obtain ⟨hargs, hP, hK, hD, hZ⟩ := hv
  have G : zs_G 1 p s m args c prog_13_method_25_code 2 "ScheduleCheckModel" D cA ad A := ⟨⟨B.exec, B.bytes, hml, findClass_of_methodNamed B.named, fun w h => atoms_spec B.pre w (List.mem_cons_of_mem _ h)⟩, hK, hJ, hZ⟩
  have hw : zs_I 1 D cA ad A s σ s.heap [] := ⟨hP, hD, va_S.rf⟩
  have hx := G.1.1
  have hb := G.1.2.1
  have hown := G.1.2.2.2.1
  have hts := G.1.2.2.2.2
  have hr := B.returns
  have hlocks := B.notSynchronized
  have he : entryFrame m args 2 = F0 m 0 ((lg_sl [.ref (ad 1), .int x1] ++ List.replicate (2 - (lg_sl [.ref (ad 1), .int x1]).length) Slot.unset).toArray) [] := by rw [hargs]; exact lg_entry_eq m _ 2
  have hl := lv_entry [.ref (ad 1), .int x1] (n := 2) (Nat.le_of_ble_eq_true rfl)
  rw [he]
  generalize (lg_sl [.ref (ad 1), .int x1] ++ List.replicate (2 - (lg_sl [.ref (ad 1), .int x1]).length) Slot.unset).toArray = ls at hl
  have hl : lv_has ls 2 [(0, .ref (ad 1)), (1, .int x1)] := hl
  obtain ⟨RR, hR⟩ : ∃ z, z = (headSpec (.code y_M_product prog_13_method_25_code 2 (some .boolean) :: zd_ww) { frames := fA + 5, cells := 0, slots := 0, locals := lA + 107 }).room := ⟨_, rfl⟩
  rw [← hR]
  obtain ⟨QQ, hQ⟩ : ∃ z, z = MQ below (zs_Qi 1 D cA ad A q) args s 0 0 A := ⟨_, rfl⟩
  rw [← hQ]
  have hR1 : fA + 5 ≤ RR.frames := by rw [hR]; exact Nat.le_refl _
  have hR2 : lA + 107 ≤ RR.locals := by rw [hR]; exact Nat.le_refl _
  generalize s.heap = H at hw ⊢
  generalize ([] : List Loc) = locs at hw ⊢
  have K10 : ∀ (n : Nat) (x1 : Int32) (σ : zs_S) (H : Heap) (locs : List Loc) (ls : Array Slot), zf_M_product_10 kA F n x1 σ = some q → zs_I 1 D cA ad A s σ H locs → lv_has ls 2 [(0, .ref (ad 1)), (1, .int x1)] → W p l e RR s m args below meth c H locs 0 0 QQ (F0 m 10 ls []) := by
    intro  n
    induction n with
    | zero => intro x1 σ H locs ls hf hw hl; exact nomatch (show (none : Option (Int32 × zs_S)) = some q from hf)
    | succ n ih =>
      intro x1 σ H locs ls hf hw hl
      rw [zf_M_product_10] at hf
      refine lv_aload_n hx hb d_M_product_10 rfl (lv_at hl 0 rfl) ?_
      refine zr_ldcw (own := "ScheduleCheckModel") (tx := "*") (q := ad 1330) hx hb hown ((G.2.2.2.2 rfl).2.2.1 30 (by decide)) d_M_product_11 ?_
      obtain ⟨r5, σ4, hc6, hf⟩ := zq_cs hf
      refine zr_ci hw (zr_runV (rest := []) (ci := 8) (o := 1) G hw [.ref (ad 1330)] (zc_M_is hJ hc6) (cwV 1 hts (zs_gV zm_568 zm_569 zm_570 zm_551 zm_567) rfl rfl rfl (by decide +kernel) ⟨Nat.le_trans (show 4 + 1 ≤ fA + 5 by omega) hR1, Nat.le_trans (show 8 + (3 + 11) + (85) ≤ lA + 107 by omega) hR2⟩) rfl rfl rfl hl.1 (Nat.le_of_ble_eq_true rfl) d_M_product_14 ⟨Nat.zero_le _, Nat.zero_le _⟩) (fun H locs hw => ?_)
      refine lv_if_eq hx hb d_M_product_17 (tgt := 42) rfl (fun hc => ?_) (fun hc => ?_)
      · have hf := (if_pos hc).symm.trans hf
        refine lv_iconst (v := 1) hx hb d_M_product_42 (by decide) ?_
        exact zr_zret G hw hr hlocks (by decide) hf hQ d_M_product_43
      · have hf := (if_neg hc).symm.trans hf
        refine lv_aload_n hx hb d_M_product_20 rfl (lv_at hl 0 rfl) ?_
        obtain ⟨σ7, hc9, hf⟩ := zq_ds hf
        refine zr_cv hw (zr_runV (rest := []) (ci := 8) (o := 1) G hw [] (zc_M_step hJ hc9) (cwV 0 hts (zs_gV zm_572 zm_573 zm_574 zm_551 zm_571) rfl rfl rfl (by decide +kernel) ⟨Nat.le_trans (show 1 + 1 ≤ fA + 5 by omega) hR1, Nat.le_trans (show 8 + (5 + 11) + (60) ≤ lA + 107 by omega) hR2⟩) rfl rfl rfl hl.1 (Nat.le_of_ble_eq_true rfl) d_M_product_21 ⟨Nat.zero_le _, Nat.zero_le _⟩) (fun H locs hw => ?_)
        refine lv_aload_n hx hb d_M_product_24 rfl (lv_at hl 0 rfl) ?_
        refine lv_iload_n hx hb d_M_product_25 rfl (lv_at hl 1 rfl) ?_
        obtain ⟨r11, σ10, hc12, hf⟩ := zq_cs hf
        refine zr_ci hw (zr_runV (rest := []) (ci := 8) (o := 1) G hw [.int x1] (hA hc12) (cwV 1 hts (zs_gV zm_677 zm_678 zm_679 zm_551 zm_676) rfl rfl rfl (by decide +kernel) ⟨Nat.le_trans (show fA + 1 ≤ fA + 5 by omega) hR1, Nat.le_trans (show 8 + (4 + 11) + (lA) ≤ lA + 107 by omega) hR2⟩) rfl rfl rfl hl.1 (Nat.le_of_ble_eq_true rfl) d_M_product_26 ⟨Nat.zero_le _, Nat.zero_le _⟩) (fun H locs hw => ?_)
        refine lv_if_ne hx hb d_M_product_29 (tgt := 34) rfl (fun hc => ?_) (fun hc => ?_)
        · have hf := (if_neg hc).symm.trans hf
          refine lv_aload_n hx hb d_M_product_34 rfl (lv_at hl 0 rfl) ?_
          refine lv_iconst (v := 5) hx hb d_M_product_35 (by decide) ?_
          obtain ⟨σ13, hc15, hf⟩ := zq_ds hf
          refine zr_cv hw (zr_runV (rest := []) (ci := 8) (o := 1) G hw [.int 5] (zc_M_put hJ hc15) (cwV 1 hts (zs_gV zm_681 zm_682 zm_683 zm_551 zm_680) rfl rfl rfl (by decide +kernel) ⟨Nat.le_trans (show 0 + 1 ≤ fA + 5 by omega) hR1, Nat.le_trans (show 8 + (2 + 11) + (0) ≤ lA + 107 by omega) hR2⟩) rfl rfl rfl hl.1 (Nat.le_of_ble_eq_true rfl) d_M_product_36 ⟨Nat.zero_le _, Nat.zero_le _⟩) (fun H locs hw => ?_)
          refine lv_goto hx hb d_M_product_39 (tgt := 10) rfl ?_
          exact ih x1 σ13 H locs ls hf hw (lv_sub hl [0, 1] rfl)
        · have hf := (if_pos hc).symm.trans hf
          refine lv_iconst (v := 0) hx hb d_M_product_32 (by decide) ?_
          exact zr_zret G hw hr hlocks (by decide) hf hQ d_M_product_33
  unfold zf_M_product at hf
  refine lv_aload_n hx hb d_M_product_0 rfl (lv_at hl 0 rfl) ?_
  refine lv_iload_n hx hb d_M_product_1 rfl (lv_at hl 1 rfl) ?_
  obtain ⟨r2, σ1, hc3, hf⟩ := zq_cs hf
  refine zr_ci hw (zr_runV (rest := []) (ci := 8) (o := 1) G hw [.int x1] (hA hc3) (cwV 1 hts (zs_gV zm_677 zm_678 zm_679 zm_551 zm_676) rfl rfl rfl (by decide +kernel) ⟨Nat.le_trans (show fA + 1 ≤ fA + 5 by omega) hR1, Nat.le_trans (show 8 + (4 + 11) + (lA) ≤ lA + 107 by omega) hR2⟩) rfl rfl rfl hl.1 (Nat.le_of_ble_eq_true rfl) d_M_product_2 ⟨Nat.zero_le _, Nat.zero_le _⟩) (fun H locs hw => ?_)
  refine lv_if_ne hx hb d_M_product_5 (tgt := 10) rfl (fun hc => ?_) (fun hc => ?_)
  · have hf := (if_neg hc).symm.trans hf
    exact K10 F x1 σ1 H locs ls hf hw (lv_sub hl [0, 1] rfl)
  · have hf := (if_pos hc).symm.trans hf
    refine lv_iconst (v := 0) hx hb d_M_product_8 (by decide) ?_
    exact zr_zret G hw hr hlocks (by decide) hf hQ d_M_product_9
/-! ScheduleCheckModel.sum -/
def y_M_sum : MethodName := ⟨"ScheduleCheckModel","sum","(I)Z"⟩
def zf_M_sum_44 (kA : Int32 → zs_S → Option (Int32 × zs_S)) (F : Nat) (k10 : Int32 → zs_S → Option (Int32 × zs_S)) (x1 : Int32) (t0 : Int32) (σ : zs_S) : Option (Int32 × zs_S) :=
  zq_d (zf_M_step F σ) fun σ13 =>
  zq_c (zf_M_product kA F x1 σ13) fun r17 σ16 =>
  if r17 = 0 then (
    some (0, σ16)
  ) else (
    zq_d (zf_M_put F t0 σ16) fun σ19 =>
    k10 x1 σ19
  )
def zf_M_sum_29 (kA : Int32 → zs_S → Option (Int32 × zs_S)) (F : Nat) (k10 : Int32 → zs_S → Option (Int32 × zs_S)) (x1 : Int32) (σ : zs_S) : Option (Int32 × zs_S) :=
  zq_c (zf_M_is F 1329 σ) fun r11 σ10 =>
  if r11 = 0 then (
    zf_M_sum_44 kA F k10 x1 4 σ10
  ) else (
    zf_M_sum_44 kA F k10 x1 3 σ10
  )
def zf_M_sum_10 (kA : Int32 → zs_S → Option (Int32 × zs_S)) (F : Nat)  : Nat → Int32 → zs_S → Option (Int32 × zs_S)
  | 0, _, _ => none
  | n + 1, x1, σ =>
    zq_c (zf_M_is F 1329 σ) fun r5 σ4 =>
    if r5 = 0 then (
      zq_c (zf_M_is F 1315 σ4) fun r8 σ7 =>
      if r8 = 0 then (
        some (1, σ7)
      ) else (
        zf_M_sum_29 kA F (zf_M_sum_10 kA F n) x1 σ7
      )
    ) else (
      zf_M_sum_29 kA F (zf_M_sum_10 kA F n) x1 σ4
    )
def zf_M_sum (kA : Int32 → zs_S → Option (Int32 × zs_S)) (F : Nat) (x1 : Int32) (σ : zs_S) : Option (Int32 × zs_S) :=
  zq_c (zf_M_product kA F x1 σ) fun r2 σ1 =>
  if r2 = 0 then (
    some (0, σ1)
  ) else (
    zf_M_sum_10 kA F F x1 σ1
  )
set_option maxHeartbeats 4000000 in
set_option maxRecDepth 100000 in
theorem zc_M_sum {l : Launch} {D : va_G} {cA : Nat → ClassId} {ad : Nat → Nat} {A : Nat → Prop} {F : Nat} {x1 : Int32} {σ : zs_S} {q : Int32 × zs_S} {kA : Int32 → zs_S → Option (Int32 × zs_S)} {fA lA : Nat} (hA : ∀ {x1 : Int32} {σ : zs_S} {q : Int32 × zs_S}, kA x1 σ = some q → Met l y_M_atom (.code y_M_atom prog_13_method_26_code 4 (some .boolean) :: zd_ww) { frames := fA, cells := 0, slots := 0, locals := lA } (va_Pc [.ref (ad 1), .int x1] (zs_U 1 D cA ad A σ)) (zs_Qi 1 D cA ad A q) 0 0 A) (hJ : zs_J ad) (hf : zf_M_sum kA F x1 σ = some q) : Met l y_M_sum (.code y_M_sum prog_13_method_24_code 3 (some .boolean) :: zd_ww) { frames := fA + 6, cells := 0, slots := 0, locals := lA + 128 } (va_Pc [.ref (ad 1), .int x1] (zs_U 1 D cA ad A σ)) (zs_Qi 1 D cA ad A q) 0 0 A := by
  refine Met.ofW (cc := prog_13_method_24_code) (maxL := 3) (ret := (some .boolean)) (by decide) rfl ?_
  intro p e s m args below meth c s₁ B hml hv
  obtain ⟨hargs, hP, hK, hD, hZ⟩ := hv
  have G : zs_G 1 p s m args c prog_13_method_24_code 3 "ScheduleCheckModel" D cA ad A := ⟨⟨B.exec, B.bytes, hml, findClass_of_methodNamed B.named, fun w h => atoms_spec B.pre w (List.mem_cons_of_mem _ h)⟩, hK, hJ, hZ⟩
  have hw : zs_I 1 D cA ad A s σ s.heap [] := ⟨hP, hD, va_S.rf⟩
  have hx := G.1.1
  have hb := G.1.2.1
  have hown := G.1.2.2.2.1
  have hts := G.1.2.2.2.2
  have hr := B.returns
  have hlocks := B.notSynchronized
  have he : entryFrame m args 3 = F0 m 0 ((lg_sl [.ref (ad 1), .int x1] ++ List.replicate (3 - (lg_sl [.ref (ad 1), .int x1]).length) Slot.unset).toArray) [] := by rw [hargs]; exact lg_entry_eq m _ 3
  have hl := lv_entry [.ref (ad 1), .int x1] (n := 3) (Nat.le_of_ble_eq_true rfl)
  rw [he]
  generalize (lg_sl [.ref (ad 1), .int x1] ++ List.replicate (3 - (lg_sl [.ref (ad 1), .int x1]).length) Slot.unset).toArray = ls at hl
  have hl : lv_has ls 3 [(0, .ref (ad 1)), (1, .int x1)] := hl
  obtain ⟨RR, hR⟩ : ∃ z, z = (headSpec (.code y_M_sum prog_13_method_24_code 3 (some .boolean) :: zd_ww) { frames := fA + 6, cells := 0, slots := 0, locals := lA + 128 }).room := ⟨_, rfl⟩
  rw [← hR]
  obtain ⟨QQ, hQ⟩ : ∃ z, z = MQ below (zs_Qi 1 D cA ad A q) args s 0 0 A := ⟨_, rfl⟩
  rw [← hQ]
  have hR1 : fA + 6 ≤ RR.frames := by rw [hR]; exact Nat.le_refl _
  have hR2 : lA + 128 ≤ RR.locals := by rw [hR]; exact Nat.le_refl _
  generalize s.heap = H at hw ⊢
  generalize ([] : List Loc) = locs at hw ⊢
  have K44 : ∀ (k10 : Int32 → zs_S → Option (Int32 × zs_S)) (hk10 : ∀ (x1 : Int32) (σ : zs_S) (H : Heap) (locs : List Loc) (ls : Array Slot), k10 x1 σ = some q → zs_I 1 D cA ad A s σ H locs → lv_has ls 3 [(0, .ref (ad 1)), (1, .int x1)] → W p l e RR s m args below meth c H locs 0 0 QQ (F0 m 10 ls [])) (x1 : Int32) (t0 : Int32) (σ : zs_S) (H : Heap) (locs : List Loc) (ls : Array Slot), zf_M_sum_44 kA F k10 x1 t0 σ = some q → zs_I 1 D cA ad A s σ H locs → lv_has ls 3 [(0, .ref (ad 1)), (1, .int x1)] → W p l e RR s m args below meth c H locs 0 0 QQ (F0 m 44 ls [.int t0]) := by
    intro k10 hk10 x1 t0 σ H locs ls hf hw hl
    unfold zf_M_sum_44 at hf
    refine lv_istore_n hx hb d_M_sum_44 rfl hl (by decide) rfl (fun ls hl => ?_)
    have hl : lv_has ls 3 [(2, .int t0), (0, .ref (ad 1)), (1, .int x1)] := hl
    refine lv_aload_n hx hb d_M_sum_45 rfl (lv_at hl 1 rfl) ?_
    obtain ⟨σ13, hc15, hf⟩ := zq_ds hf
    refine zr_cv hw (zr_runV (rest := []) (ci := 8) (o := 1) G hw [] (zc_M_step hJ hc15) (cwV 0 hts (zs_gV zm_572 zm_573 zm_574 zm_551 zm_571) rfl rfl rfl (by decide +kernel) ⟨Nat.le_trans (show 1 + 1 ≤ fA + 6 by omega) hR1, Nat.le_trans (show 8 + (5 + 11) + (60) ≤ lA + 128 by omega) hR2⟩) rfl rfl rfl hl.1 (Nat.le_of_ble_eq_true rfl) d_M_sum_46 ⟨Nat.zero_le _, Nat.zero_le _⟩) (fun H locs hw => ?_)
    refine lv_aload_n hx hb d_M_sum_49 rfl (lv_at hl 1 rfl) ?_
    refine lv_iload_n hx hb d_M_sum_50 rfl (lv_at hl 2 rfl) ?_
    obtain ⟨r17, σ16, hc18, hf⟩ := zq_cs hf
    refine zr_ci hw (zr_runV (rest := []) (ci := 8) (o := 1) G hw [.int x1] (zc_M_product hA hJ hc18) (cwV 1 hts (zs_gV zm_685 zm_686 zm_687 zm_551 zm_684) rfl rfl rfl (by decide +kernel) ⟨Nat.le_trans (show fA + 5 + 1 ≤ fA + 6 by omega) hR1, Nat.le_trans (show 8 + (2 + 11) + (lA + 107) ≤ lA + 128 by omega) hR2⟩) rfl rfl rfl hl.1 (Nat.le_of_ble_eq_true rfl) d_M_sum_51 ⟨Nat.zero_le _, Nat.zero_le _⟩) (fun H locs hw => ?_)
    refine lv_if_ne hx hb d_M_sum_54 (tgt := 59) rfl (fun hc => ?_) (fun hc => ?_)
    · have hf := (if_neg hc).symm.trans hf
      refine lv_aload_n hx hb d_M_sum_59 rfl (lv_at hl 1 rfl) ?_
      refine lv_iload_n hx hb d_M_sum_60 rfl (lv_at hl 0 rfl) ?_
      obtain ⟨σ19, hc21, hf⟩ := zq_ds hf
      refine zr_cv hw (zr_runV (rest := []) (ci := 8) (o := 1) G hw [.int t0] (zc_M_put hJ hc21) (cwV 1 hts (zs_gV zm_681 zm_682 zm_683 zm_551 zm_680) rfl rfl rfl (by decide +kernel) ⟨Nat.le_trans (show 0 + 1 ≤ fA + 6 by omega) hR1, Nat.le_trans (show 8 + (2 + 11) + (0) ≤ lA + 128 by omega) hR2⟩) rfl rfl rfl hl.1 (Nat.le_of_ble_eq_true rfl) d_M_sum_61 ⟨Nat.zero_le _, Nat.zero_le _⟩) (fun H locs hw => ?_)
      refine lv_goto hx hb d_M_sum_64 (tgt := 10) rfl ?_
      exact hk10 x1 σ19 H locs ls hf hw (lv_sub hl [1, 2] rfl)
    · have hf := (if_pos hc).symm.trans hf
      refine lv_iconst (v := 0) hx hb d_M_sum_57 (by decide) ?_
      exact zr_zret G hw hr hlocks (by decide) hf hQ d_M_sum_58
  have K29 : ∀ (k10 : Int32 → zs_S → Option (Int32 × zs_S)) (hk10 : ∀ (x1 : Int32) (σ : zs_S) (H : Heap) (locs : List Loc) (ls : Array Slot), k10 x1 σ = some q → zs_I 1 D cA ad A s σ H locs → lv_has ls 3 [(0, .ref (ad 1)), (1, .int x1)] → W p l e RR s m args below meth c H locs 0 0 QQ (F0 m 10 ls [])) (x1 : Int32) (σ : zs_S) (H : Heap) (locs : List Loc) (ls : Array Slot), zf_M_sum_29 kA F k10 x1 σ = some q → zs_I 1 D cA ad A s σ H locs → lv_has ls 3 [(0, .ref (ad 1)), (1, .int x1)] → W p l e RR s m args below meth c H locs 0 0 QQ (F0 m 29 ls []) := by
    intro k10 hk10 x1 σ H locs ls hf hw hl
    unfold zf_M_sum_29 at hf
    refine lv_aload_n hx hb d_M_sum_29 rfl (lv_at hl 0 rfl) ?_
    refine zr_ldcw (own := "ScheduleCheckModel") (tx := "+") (q := ad 1329) hx hb hown ((G.2.2.2.2 rfl).2.2.1 29 (by decide)) d_M_sum_30 ?_
    obtain ⟨r11, σ10, hc12, hf⟩ := zq_cs hf
    refine zr_ci hw (zr_runV (rest := []) (ci := 8) (o := 1) G hw [.ref (ad 1329)] (zc_M_is hJ hc12) (cwV 1 hts (zs_gV zm_568 zm_569 zm_570 zm_551 zm_567) rfl rfl rfl (by decide +kernel) ⟨Nat.le_trans (show 4 + 1 ≤ fA + 6 by omega) hR1, Nat.le_trans (show 8 + (3 + 11) + (85) ≤ lA + 128 by omega) hR2⟩) rfl rfl rfl hl.1 (Nat.le_of_ble_eq_true rfl) d_M_sum_33 ⟨Nat.zero_le _, Nat.zero_le _⟩) (fun H locs hw => ?_)
    refine lv_if_eq hx hb d_M_sum_36 (tgt := 43) rfl (fun hc => ?_) (fun hc => ?_)
    · have hf := (if_pos hc).symm.trans hf
      refine lv_iconst (v := 4) hx hb d_M_sum_43 (by decide) ?_
      exact K44 k10 hk10 x1 4 σ10 H locs ls hf hw (lv_sub hl [0, 1] rfl)
    · have hf := (if_neg hc).symm.trans hf
      refine lv_iconst (v := 3) hx hb d_M_sum_39 (by decide) ?_
      refine lv_goto hx hb d_M_sum_40 (tgt := 44) rfl ?_
      exact K44 k10 hk10 x1 3 σ10 H locs ls hf hw (lv_sub hl [0, 1] rfl)
  have K10 : ∀ (n : Nat) (x1 : Int32) (σ : zs_S) (H : Heap) (locs : List Loc) (ls : Array Slot), zf_M_sum_10 kA F n x1 σ = some q → zs_I 1 D cA ad A s σ H locs → lv_has ls 3 [(0, .ref (ad 1)), (1, .int x1)] → W p l e RR s m args below meth c H locs 0 0 QQ (F0 m 10 ls []) := by
    intro  n
    induction n with
    | zero => intro x1 σ H locs ls hf hw hl; exact nomatch (show (none : Option (Int32 × zs_S)) = some q from hf)
    | succ n ih =>
      intro x1 σ H locs ls hf hw hl
      rw [zf_M_sum_10] at hf
      refine lv_aload_n hx hb d_M_sum_10 rfl (lv_at hl 0 rfl) ?_
      refine zr_ldcw (own := "ScheduleCheckModel") (tx := "+") (q := ad 1329) hx hb hown ((G.2.2.2.2 rfl).2.2.1 29 (by decide)) d_M_sum_11 ?_
      obtain ⟨r5, σ4, hc6, hf⟩ := zq_cs hf
      refine zr_ci hw (zr_runV (rest := []) (ci := 8) (o := 1) G hw [.ref (ad 1329)] (zc_M_is hJ hc6) (cwV 1 hts (zs_gV zm_568 zm_569 zm_570 zm_551 zm_567) rfl rfl rfl (by decide +kernel) ⟨Nat.le_trans (show 4 + 1 ≤ fA + 6 by omega) hR1, Nat.le_trans (show 8 + (3 + 11) + (85) ≤ lA + 128 by omega) hR2⟩) rfl rfl rfl hl.1 (Nat.le_of_ble_eq_true rfl) d_M_sum_14 ⟨Nat.zero_le _, Nat.zero_le _⟩) (fun H locs hw => ?_)
      refine lv_if_ne hx hb d_M_sum_17 (tgt := 29) rfl (fun hc => ?_) (fun hc => ?_)
      · have hf := (if_neg hc).symm.trans hf
        exact K29 (zf_M_sum_10 kA F n) ih x1 σ4 H locs ls hf hw (lv_sub hl [0, 1] rfl)
      · have hf := (if_pos hc).symm.trans hf
        refine lv_aload_n hx hb d_M_sum_20 rfl (lv_at hl 0 rfl) ?_
        refine va_ldcS (own := "ScheduleCheckModel") (tx := "-") (q := ad 1315) hx hb hown ((G.2.2.2.2 rfl).2.2.1 15 (by decide)) d_M_sum_21 ?_
        obtain ⟨r8, σ7, hc9, hf⟩ := zq_cs hf
        refine zr_ci hw (zr_runV (rest := []) (ci := 8) (o := 1) G hw [.ref (ad 1315)] (zc_M_is hJ hc9) (cwV 1 hts (zs_gV zm_568 zm_569 zm_570 zm_551 zm_567) rfl rfl rfl (by decide +kernel) ⟨Nat.le_trans (show 4 + 1 ≤ fA + 6 by omega) hR1, Nat.le_trans (show 8 + (3 + 11) + (85) ≤ lA + 128 by omega) hR2⟩) rfl rfl rfl hl.1 (Nat.le_of_ble_eq_true rfl) d_M_sum_23 ⟨Nat.zero_le _, Nat.zero_le _⟩) (fun H locs hw => ?_)
        refine lv_if_eq hx hb d_M_sum_26 (tgt := 67) rfl (fun hc => ?_) (fun hc => ?_)
        · have hf := (if_pos hc).symm.trans hf
          refine lv_iconst (v := 1) hx hb d_M_sum_67 (by decide) ?_
          exact zr_zret G hw hr hlocks (by decide) hf hQ d_M_sum_68
        · have hf := (if_neg hc).symm.trans hf
          exact K29 (zf_M_sum_10 kA F n) ih x1 σ7 H locs ls hf hw (lv_sub hl [0, 1] rfl)
  unfold zf_M_sum at hf
  refine lv_aload_n hx hb d_M_sum_0 rfl (lv_at hl 0 rfl) ?_
  refine lv_iload_n hx hb d_M_sum_1 rfl (lv_at hl 1 rfl) ?_
  obtain ⟨r2, σ1, hc3, hf⟩ := zq_cs hf
  refine zr_ci hw (zr_runV (rest := []) (ci := 8) (o := 1) G hw [.int x1] (zc_M_product hA hJ hc3) (cwV 1 hts (zs_gV zm_685 zm_686 zm_687 zm_551 zm_684) rfl rfl rfl (by decide +kernel) ⟨Nat.le_trans (show fA + 5 + 1 ≤ fA + 6 by omega) hR1, Nat.le_trans (show 8 + (2 + 11) + (lA + 107) ≤ lA + 128 by omega) hR2⟩) rfl rfl rfl hl.1 (Nat.le_of_ble_eq_true rfl) d_M_sum_2 ⟨Nat.zero_le _, Nat.zero_le _⟩) (fun H locs hw => ?_)
  refine lv_if_ne hx hb d_M_sum_5 (tgt := 10) rfl (fun hc => ?_) (fun hc => ?_)
  · have hf := (if_neg hc).symm.trans hf
    exact K10 F x1 σ1 H locs ls hf hw (lv_sub hl [0, 1] rfl)
  · have hf := (if_pos hc).symm.trans hf
    refine lv_iconst (v := 0) hx hb d_M_sum_8 (by decide) ?_
    exact zr_zret G hw hr hlocks (by decide) hf hQ d_M_sum_9
/-! ScheduleCheckModel.comparison -/
def y_M_comparison : MethodName := ⟨"ScheduleCheckModel","comparison","(I)Z"⟩
def zf_M_comparison_101 (kA : Int32 → zs_S → Option (Int32 × zs_S)) (F : Nat)  (x1 : Int32) (t0 : Int32) (σ : zs_S) : Option (Int32 × zs_S) :=
  if 0 ≤ t0 then (
    zq_d (zf_M_step F σ) fun σ22 =>
    zq_c (zf_M_sum kA F x1 σ22) fun r26 σ25 =>
    if r26 = 0 then (
      some (0, σ25)
    ) else (
      zq_d (zf_M_put F t0 σ25) fun σ28 =>
      some (1, σ28)
    )
  ) else (
    some (1, σ)
  )
def zf_M_comparison (kA : Int32 → zs_S → Option (Int32 × zs_S)) (F : Nat) (x1 : Int32) (σ : zs_S) : Option (Int32 × zs_S) :=
  zq_c (zf_M_sum kA F x1 σ) fun r2 σ1 =>
  if r2 = 0 then (
    some (0, σ1)
  ) else (
    zq_c (zf_M_is F 1323 σ1) fun r5 σ4 =>
    if r5 = 0 then (
      zq_c (zf_M_is F 1324 σ4) fun r8 σ7 =>
      if r8 = 0 then (
        zq_c (zf_M_is F 1325 σ7) fun r11 σ10 =>
        if r11 = 0 then (
          zq_c (zf_M_is F 1326 σ10) fun r14 σ13 =>
          if r14 = 0 then (
            zq_c (zf_M_is F 1327 σ13) fun r17 σ16 =>
            if r17 = 0 then (
              zq_c (zf_M_is F 1328 σ16) fun r20 σ19 =>
              if r20 = 0 then (
                zf_M_comparison_101 kA F x1 ((-1)) σ19
              ) else (
                zf_M_comparison_101 kA F x1 13 σ19
              )
            ) else (
              zf_M_comparison_101 kA F x1 12 σ16
            )
          ) else (
            zf_M_comparison_101 kA F x1 11 σ13
          )
        ) else (
          zf_M_comparison_101 kA F x1 10 σ10
        )
      ) else (
        zf_M_comparison_101 kA F x1 9 σ7
      )
    ) else (
      zf_M_comparison_101 kA F x1 8 σ4
    )
  )
set_option maxHeartbeats 4000000 in
set_option maxRecDepth 100000 in
theorem zc_M_comparison {l : Launch} {D : va_G} {cA : Nat → ClassId} {ad : Nat → Nat} {A : Nat → Prop} {F : Nat} {x1 : Int32} {σ : zs_S} {q : Int32 × zs_S} {kA : Int32 → zs_S → Option (Int32 × zs_S)} {fA lA : Nat} (hA : ∀ {x1 : Int32} {σ : zs_S} {q : Int32 × zs_S}, kA x1 σ = some q → Met l y_M_atom (.code y_M_atom prog_13_method_26_code 4 (some .boolean) :: zd_ww) { frames := fA, cells := 0, slots := 0, locals := lA } (va_Pc [.ref (ad 1), .int x1] (zs_U 1 D cA ad A σ)) (zs_Qi 1 D cA ad A q) 0 0 A) (hJ : zs_J ad) (hf : zf_M_comparison kA F x1 σ = some q) : Met l y_M_comparison (.code y_M_comparison prog_13_method_23_code 3 (some .boolean) :: zd_ww) { frames := fA + 7, cells := 0, slots := 0, locals := lA + 150 } (va_Pc [.ref (ad 1), .int x1] (zs_U 1 D cA ad A σ)) (zs_Qi 1 D cA ad A q) 0 0 A := by
  refine Met.ofW (cc := prog_13_method_23_code) (maxL := 3) (ret := (some .boolean)) (by decide) rfl ?_
  intro p e s m args below meth c s₁ B hml hv
  obtain ⟨hargs, hP, hK, hD, hZ⟩ := hv
  have G : zs_G 1 p s m args c prog_13_method_23_code 3 "ScheduleCheckModel" D cA ad A := ⟨⟨B.exec, B.bytes, hml, findClass_of_methodNamed B.named, fun w h => atoms_spec B.pre w (List.mem_cons_of_mem _ h)⟩, hK, hJ, hZ⟩
  have hw : zs_I 1 D cA ad A s σ s.heap [] := ⟨hP, hD, va_S.rf⟩
  have hx := G.1.1
  have hb := G.1.2.1
  have hown := G.1.2.2.2.1
  have hts := G.1.2.2.2.2
  have hr := B.returns
  have hlocks := B.notSynchronized
  have he : entryFrame m args 3 = F0 m 0 ((lg_sl [.ref (ad 1), .int x1] ++ List.replicate (3 - (lg_sl [.ref (ad 1), .int x1]).length) Slot.unset).toArray) [] := by rw [hargs]; exact lg_entry_eq m _ 3
  have hl := lv_entry [.ref (ad 1), .int x1] (n := 3) (Nat.le_of_ble_eq_true rfl)
  rw [he]
  generalize (lg_sl [.ref (ad 1), .int x1] ++ List.replicate (3 - (lg_sl [.ref (ad 1), .int x1]).length) Slot.unset).toArray = ls at hl
  have hl : lv_has ls 3 [(0, .ref (ad 1)), (1, .int x1)] := hl
  obtain ⟨RR, hR⟩ : ∃ z, z = (headSpec (.code y_M_comparison prog_13_method_23_code 3 (some .boolean) :: zd_ww) { frames := fA + 7, cells := 0, slots := 0, locals := lA + 150 }).room := ⟨_, rfl⟩
  rw [← hR]
  obtain ⟨QQ, hQ⟩ : ∃ z, z = MQ below (zs_Qi 1 D cA ad A q) args s 0 0 A := ⟨_, rfl⟩
  rw [← hQ]
  have hR1 : fA + 7 ≤ RR.frames := by rw [hR]; exact Nat.le_refl _
  have hR2 : lA + 150 ≤ RR.locals := by rw [hR]; exact Nat.le_refl _
  generalize s.heap = H at hw ⊢
  generalize ([] : List Loc) = locs at hw ⊢
  have K101 : ∀ (x1 : Int32) (t0 : Int32) (σ : zs_S) (H : Heap) (locs : List Loc) (ls : Array Slot), zf_M_comparison_101 kA F x1 t0 σ = some q → zs_I 1 D cA ad A s σ H locs → lv_has ls 3 [(0, .ref (ad 1)), (1, .int x1)] → W p l e RR s m args below meth c H locs 0 0 QQ (F0 m 101 ls [.int t0]) := by
    intro  x1 t0 σ H locs ls hf hw hl
    unfold zf_M_comparison_101 at hf
    refine lv_istore_n hx hb d_M_comparison_101 rfl hl (by decide) rfl (fun ls hl => ?_)
    have hl : lv_has ls 3 [(2, .int t0), (0, .ref (ad 1)), (1, .int x1)] := hl
    refine lv_iload_n hx hb d_M_comparison_102 rfl (lv_at hl 0 rfl) ?_
    refine lv_if_ge hx hb d_M_comparison_103 (tgt := 108) rfl (fun hc => ?_) (fun hc => ?_)
    · have hf := (if_pos hc).symm.trans hf
      refine lv_aload_n hx hb d_M_comparison_108 rfl (lv_at hl 1 rfl) ?_
      obtain ⟨σ22, hc24, hf⟩ := zq_ds hf
      refine zr_cv hw (zr_runV (rest := []) (ci := 8) (o := 1) G hw [] (zc_M_step hJ hc24) (cwV 0 hts (zs_gV zm_572 zm_573 zm_574 zm_551 zm_571) rfl rfl rfl (by decide +kernel) ⟨Nat.le_trans (show 1 + 1 ≤ fA + 7 by omega) hR1, Nat.le_trans (show 8 + (5 + 11) + (60) ≤ lA + 150 by omega) hR2⟩) rfl rfl rfl hl.1 (Nat.le_of_ble_eq_true rfl) d_M_comparison_109 ⟨Nat.zero_le _, Nat.zero_le _⟩) (fun H locs hw => ?_)
      refine lv_aload_n hx hb d_M_comparison_112 rfl (lv_at hl 1 rfl) ?_
      refine lv_iload_n hx hb d_M_comparison_113 rfl (lv_at hl 2 rfl) ?_
      obtain ⟨r26, σ25, hc27, hf⟩ := zq_cs hf
      refine zr_ci hw (zr_runV (rest := []) (ci := 8) (o := 1) G hw [.int x1] (zc_M_sum hA hJ hc27) (cwV 1 hts (zs_gV zm_689 zm_690 zm_691 zm_551 zm_688) rfl rfl rfl (by decide +kernel) ⟨Nat.le_trans (show fA + 6 + 1 ≤ fA + 7 by omega) hR1, Nat.le_trans (show 8 + (3 + 11) + (lA + 128) ≤ lA + 150 by omega) hR2⟩) rfl rfl rfl hl.1 (Nat.le_of_ble_eq_true rfl) d_M_comparison_114 ⟨Nat.zero_le _, Nat.zero_le _⟩) (fun H locs hw => ?_)
      refine lv_if_ne hx hb d_M_comparison_117 (tgt := 122) rfl (fun hc => ?_) (fun hc => ?_)
      · have hf := (if_neg hc).symm.trans hf
        refine lv_aload_n hx hb d_M_comparison_122 rfl (lv_at hl 1 rfl) ?_
        refine lv_iload_n hx hb d_M_comparison_123 rfl (lv_at hl 0 rfl) ?_
        obtain ⟨σ28, hc30, hf⟩ := zq_ds hf
        refine zr_cv hw (zr_runV (rest := []) (ci := 8) (o := 1) G hw [.int t0] (zc_M_put hJ hc30) (cwV 1 hts (zs_gV zm_681 zm_682 zm_683 zm_551 zm_680) rfl rfl rfl (by decide +kernel) ⟨Nat.le_trans (show 0 + 1 ≤ fA + 7 by omega) hR1, Nat.le_trans (show 8 + (2 + 11) + (0) ≤ lA + 150 by omega) hR2⟩) rfl rfl rfl hl.1 (Nat.le_of_ble_eq_true rfl) d_M_comparison_124 ⟨Nat.zero_le _, Nat.zero_le _⟩) (fun H locs hw => ?_)
        refine lv_iconst (v := 1) hx hb d_M_comparison_127 (by decide) ?_
        exact zr_zret G hw hr hlocks (by decide) hf hQ d_M_comparison_128
      · have hf := (if_pos hc).symm.trans hf
        refine lv_iconst (v := 0) hx hb d_M_comparison_120 (by decide) ?_
        exact zr_zret G hw hr hlocks (by decide) hf hQ d_M_comparison_121
    · have hf := (if_neg hc).symm.trans hf
      refine lv_iconst (v := 1) hx hb d_M_comparison_106 (by decide) ?_
      exact zr_zret G hw hr hlocks (by decide) hf hQ d_M_comparison_107
  unfold zf_M_comparison at hf
  refine lv_aload_n hx hb d_M_comparison_0 rfl (lv_at hl 0 rfl) ?_
  refine lv_iload_n hx hb d_M_comparison_1 rfl (lv_at hl 1 rfl) ?_
  obtain ⟨r2, σ1, hc3, hf⟩ := zq_cs hf
  refine zr_ci hw (zr_runV (rest := []) (ci := 8) (o := 1) G hw [.int x1] (zc_M_sum hA hJ hc3) (cwV 1 hts (zs_gV zm_689 zm_690 zm_691 zm_551 zm_688) rfl rfl rfl (by decide +kernel) ⟨Nat.le_trans (show fA + 6 + 1 ≤ fA + 7 by omega) hR1, Nat.le_trans (show 8 + (3 + 11) + (lA + 128) ≤ lA + 150 by omega) hR2⟩) rfl rfl rfl hl.1 (Nat.le_of_ble_eq_true rfl) d_M_comparison_2 ⟨Nat.zero_le _, Nat.zero_le _⟩) (fun H locs hw => ?_)
  refine lv_if_ne hx hb d_M_comparison_5 (tgt := 10) rfl (fun hc => ?_) (fun hc => ?_)
  · have hf := (if_neg hc).symm.trans hf
    refine lv_aload_n hx hb d_M_comparison_10 rfl (lv_at hl 0 rfl) ?_
    refine zr_ldcw (own := "ScheduleCheckModel") (tx := "==") (q := ad 1323) hx hb hown ((G.2.2.2.2 rfl).2.2.1 23 (by decide)) d_M_comparison_11 ?_
    obtain ⟨r5, σ4, hc6, hf⟩ := zq_cs hf
    refine zr_ci hw (zr_runV (rest := []) (ci := 8) (o := 1) G hw [.ref (ad 1323)] (zc_M_is hJ hc6) (cwV 1 hts (zs_gV zm_568 zm_569 zm_570 zm_551 zm_567) rfl rfl rfl (by decide +kernel) ⟨Nat.le_trans (show 4 + 1 ≤ fA + 7 by omega) hR1, Nat.le_trans (show 8 + (3 + 11) + (85) ≤ lA + 150 by omega) hR2⟩) rfl rfl rfl hl.1 (Nat.le_of_ble_eq_true rfl) d_M_comparison_14 ⟨Nat.zero_le _, Nat.zero_le _⟩) (fun H locs hw => ?_)
    refine lv_if_eq hx hb d_M_comparison_17 (tgt := 25) rfl (fun hc => ?_) (fun hc => ?_)
    · have hf := (if_pos hc).symm.trans hf
      refine lv_aload_n hx hb d_M_comparison_25 rfl (lv_at hl 0 rfl) ?_
      refine zr_ldcw (own := "ScheduleCheckModel") (tx := "!=") (q := ad 1324) hx hb hown ((G.2.2.2.2 rfl).2.2.1 24 (by decide)) d_M_comparison_26 ?_
      obtain ⟨r8, σ7, hc9, hf⟩ := zq_cs hf
      refine zr_ci hw (zr_runV (rest := []) (ci := 8) (o := 1) G hw [.ref (ad 1324)] (zc_M_is hJ hc9) (cwV 1 hts (zs_gV zm_568 zm_569 zm_570 zm_551 zm_567) rfl rfl rfl (by decide +kernel) ⟨Nat.le_trans (show 4 + 1 ≤ fA + 7 by omega) hR1, Nat.le_trans (show 8 + (3 + 11) + (85) ≤ lA + 150 by omega) hR2⟩) rfl rfl rfl hl.1 (Nat.le_of_ble_eq_true rfl) d_M_comparison_29 ⟨Nat.zero_le _, Nat.zero_le _⟩) (fun H locs hw => ?_)
      refine lv_if_eq hx hb d_M_comparison_32 (tgt := 40) rfl (fun hc => ?_) (fun hc => ?_)
      · have hf := (if_pos hc).symm.trans hf
        refine lv_aload_n hx hb d_M_comparison_40 rfl (lv_at hl 0 rfl) ?_
        refine zr_ldcw (own := "ScheduleCheckModel") (tx := "<") (q := ad 1325) hx hb hown ((G.2.2.2.2 rfl).2.2.1 25 (by decide)) d_M_comparison_41 ?_
        obtain ⟨r11, σ10, hc12, hf⟩ := zq_cs hf
        refine zr_ci hw (zr_runV (rest := []) (ci := 8) (o := 1) G hw [.ref (ad 1325)] (zc_M_is hJ hc12) (cwV 1 hts (zs_gV zm_568 zm_569 zm_570 zm_551 zm_567) rfl rfl rfl (by decide +kernel) ⟨Nat.le_trans (show 4 + 1 ≤ fA + 7 by omega) hR1, Nat.le_trans (show 8 + (3 + 11) + (85) ≤ lA + 150 by omega) hR2⟩) rfl rfl rfl hl.1 (Nat.le_of_ble_eq_true rfl) d_M_comparison_44 ⟨Nat.zero_le _, Nat.zero_le _⟩) (fun H locs hw => ?_)
        refine lv_if_eq hx hb d_M_comparison_47 (tgt := 55) rfl (fun hc => ?_) (fun hc => ?_)
        · have hf := (if_pos hc).symm.trans hf
          refine lv_aload_n hx hb d_M_comparison_55 rfl (lv_at hl 0 rfl) ?_
          refine zr_ldcw (own := "ScheduleCheckModel") (tx := "<=") (q := ad 1326) hx hb hown ((G.2.2.2.2 rfl).2.2.1 26 (by decide)) d_M_comparison_56 ?_
          obtain ⟨r14, σ13, hc15, hf⟩ := zq_cs hf
          refine zr_ci hw (zr_runV (rest := []) (ci := 8) (o := 1) G hw [.ref (ad 1326)] (zc_M_is hJ hc15) (cwV 1 hts (zs_gV zm_568 zm_569 zm_570 zm_551 zm_567) rfl rfl rfl (by decide +kernel) ⟨Nat.le_trans (show 4 + 1 ≤ fA + 7 by omega) hR1, Nat.le_trans (show 8 + (3 + 11) + (85) ≤ lA + 150 by omega) hR2⟩) rfl rfl rfl hl.1 (Nat.le_of_ble_eq_true rfl) d_M_comparison_59 ⟨Nat.zero_le _, Nat.zero_le _⟩) (fun H locs hw => ?_)
          refine lv_if_eq hx hb d_M_comparison_62 (tgt := 70) rfl (fun hc => ?_) (fun hc => ?_)
          · have hf := (if_pos hc).symm.trans hf
            refine lv_aload_n hx hb d_M_comparison_70 rfl (lv_at hl 0 rfl) ?_
            refine zr_ldcw (own := "ScheduleCheckModel") (tx := ">") (q := ad 1327) hx hb hown ((G.2.2.2.2 rfl).2.2.1 27 (by decide)) d_M_comparison_71 ?_
            obtain ⟨r17, σ16, hc18, hf⟩ := zq_cs hf
            refine zr_ci hw (zr_runV (rest := []) (ci := 8) (o := 1) G hw [.ref (ad 1327)] (zc_M_is hJ hc18) (cwV 1 hts (zs_gV zm_568 zm_569 zm_570 zm_551 zm_567) rfl rfl rfl (by decide +kernel) ⟨Nat.le_trans (show 4 + 1 ≤ fA + 7 by omega) hR1, Nat.le_trans (show 8 + (3 + 11) + (85) ≤ lA + 150 by omega) hR2⟩) rfl rfl rfl hl.1 (Nat.le_of_ble_eq_true rfl) d_M_comparison_74 ⟨Nat.zero_le _, Nat.zero_le _⟩) (fun H locs hw => ?_)
            refine lv_if_eq hx hb d_M_comparison_77 (tgt := 85) rfl (fun hc => ?_) (fun hc => ?_)
            · have hf := (if_pos hc).symm.trans hf
              refine lv_aload_n hx hb d_M_comparison_85 rfl (lv_at hl 0 rfl) ?_
              refine zr_ldcw (own := "ScheduleCheckModel") (tx := ">=") (q := ad 1328) hx hb hown ((G.2.2.2.2 rfl).2.2.1 28 (by decide)) d_M_comparison_86 ?_
              obtain ⟨r20, σ19, hc21, hf⟩ := zq_cs hf
              refine zr_ci hw (zr_runV (rest := []) (ci := 8) (o := 1) G hw [.ref (ad 1328)] (zc_M_is hJ hc21) (cwV 1 hts (zs_gV zm_568 zm_569 zm_570 zm_551 zm_567) rfl rfl rfl (by decide +kernel) ⟨Nat.le_trans (show 4 + 1 ≤ fA + 7 by omega) hR1, Nat.le_trans (show 8 + (3 + 11) + (85) ≤ lA + 150 by omega) hR2⟩) rfl rfl rfl hl.1 (Nat.le_of_ble_eq_true rfl) d_M_comparison_89 ⟨Nat.zero_le _, Nat.zero_le _⟩) (fun H locs hw => ?_)
              refine lv_if_eq hx hb d_M_comparison_92 (tgt := 100) rfl (fun hc => ?_) (fun hc => ?_)
              · have hf := (if_pos hc).symm.trans hf
                refine lv_iconst (v := (-1)) hx hb d_M_comparison_100 (by decide) ?_
                exact K101 x1 ((-1)) σ19 H locs ls hf hw (lv_sub hl [0, 1] rfl)
              · have hf := (if_neg hc).symm.trans hf
                refine lv_bipush (v := 13) hx hb d_M_comparison_95 (by decide) ?_
                refine lv_goto hx hb d_M_comparison_97 (tgt := 101) rfl ?_
                exact K101 x1 13 σ19 H locs ls hf hw (lv_sub hl [0, 1] rfl)
            · have hf := (if_neg hc).symm.trans hf
              refine lv_bipush (v := 12) hx hb d_M_comparison_80 (by decide) ?_
              refine lv_goto hx hb d_M_comparison_82 (tgt := 101) rfl ?_
              exact K101 x1 12 σ16 H locs ls hf hw (lv_sub hl [0, 1] rfl)
          · have hf := (if_neg hc).symm.trans hf
            refine lv_bipush (v := 11) hx hb d_M_comparison_65 (by decide) ?_
            refine lv_goto hx hb d_M_comparison_67 (tgt := 101) rfl ?_
            exact K101 x1 11 σ13 H locs ls hf hw (lv_sub hl [0, 1] rfl)
        · have hf := (if_neg hc).symm.trans hf
          refine lv_bipush (v := 10) hx hb d_M_comparison_50 (by decide) ?_
          refine lv_goto hx hb d_M_comparison_52 (tgt := 101) rfl ?_
          exact K101 x1 10 σ10 H locs ls hf hw (lv_sub hl [0, 1] rfl)
      · have hf := (if_neg hc).symm.trans hf
        refine lv_bipush (v := 9) hx hb d_M_comparison_35 (by decide) ?_
        refine lv_goto hx hb d_M_comparison_37 (tgt := 101) rfl ?_
        exact K101 x1 9 σ7 H locs ls hf hw (lv_sub hl [0, 1] rfl)
    · have hf := (if_neg hc).symm.trans hf
      refine lv_bipush (v := 8) hx hb d_M_comparison_20 (by decide) ?_
      refine lv_goto hx hb d_M_comparison_22 (tgt := 101) rfl ?_
      exact K101 x1 8 σ4 H locs ls hf hw (lv_sub hl [0, 1] rfl)
  · have hf := (if_pos hc).symm.trans hf
    refine lv_iconst (v := 0) hx hb d_M_comparison_8 (by decide) ?_
    exact zr_zret G hw hr hlocks (by decide) hf hQ d_M_comparison_9
/-! ScheduleCheckModel.both -/
def y_M_both : MethodName := ⟨"ScheduleCheckModel","both","(I)Z"⟩
def zf_M_both_10 (kA : Int32 → zs_S → Option (Int32 × zs_S)) (F : Nat)  : Nat → Int32 → zs_S → Option (Int32 × zs_S)
  | 0, _, _ => none
  | n + 1, x1, σ =>
    zq_c (zf_M_is F 1322 σ) fun r5 σ4 =>
    if r5 = 0 then (
      some (1, σ4)
    ) else (
      zq_d (zf_M_step F σ4) fun σ7 =>
      zq_c (zf_M_comparison kA F x1 σ7) fun r11 σ10 =>
      if r11 = 0 then (
        some (0, σ10)
      ) else (
        zq_d (zf_M_put F 14 σ10) fun σ13 =>
        (zf_M_both_10 kA F n) x1 σ13
      )
    )
def zf_M_both (kA : Int32 → zs_S → Option (Int32 × zs_S)) (F : Nat) (x1 : Int32) (σ : zs_S) : Option (Int32 × zs_S) :=
  zq_c (zf_M_comparison kA F x1 σ) fun r2 σ1 =>
  if r2 = 0 then (
    some (0, σ1)
  ) else (
    zf_M_both_10 kA F F x1 σ1
  )
set_option maxHeartbeats 4000000 in
set_option maxRecDepth 100000 in
theorem zc_M_both {l : Launch} {D : va_G} {cA : Nat → ClassId} {ad : Nat → Nat} {A : Nat → Prop} {F : Nat} {x1 : Int32} {σ : zs_S} {q : Int32 × zs_S} {kA : Int32 → zs_S → Option (Int32 × zs_S)} {fA lA : Nat} (hA : ∀ {x1 : Int32} {σ : zs_S} {q : Int32 × zs_S}, kA x1 σ = some q → Met l y_M_atom (.code y_M_atom prog_13_method_26_code 4 (some .boolean) :: zd_ww) { frames := fA, cells := 0, slots := 0, locals := lA } (va_Pc [.ref (ad 1), .int x1] (zs_U 1 D cA ad A σ)) (zs_Qi 1 D cA ad A q) 0 0 A) (hJ : zs_J ad) (hf : zf_M_both kA F x1 σ = some q) : Met l y_M_both (.code y_M_both prog_13_method_22_code 2 (some .boolean) :: zd_ww) { frames := fA + 8, cells := 0, slots := 0, locals := lA + 172 } (va_Pc [.ref (ad 1), .int x1] (zs_U 1 D cA ad A σ)) (zs_Qi 1 D cA ad A q) 0 0 A := by
  refine Met.ofW (cc := prog_13_method_22_code) (maxL := 2) (ret := (some .boolean)) (by decide) rfl ?_
  intro p e s m args below meth c s₁ B hml hv
  obtain ⟨hargs, hP, hK, hD, hZ⟩ := hv
  have G : zs_G 1 p s m args c prog_13_method_22_code 2 "ScheduleCheckModel" D cA ad A := ⟨⟨B.exec, B.bytes, hml, findClass_of_methodNamed B.named, fun w h => atoms_spec B.pre w (List.mem_cons_of_mem _ h)⟩, hK, hJ, hZ⟩
  have hw : zs_I 1 D cA ad A s σ s.heap [] := ⟨hP, hD, va_S.rf⟩
  have hx := G.1.1
  have hb := G.1.2.1
  have hown := G.1.2.2.2.1
  have hts := G.1.2.2.2.2
  have hr := B.returns
  have hlocks := B.notSynchronized
  have he : entryFrame m args 2 = F0 m 0 ((lg_sl [.ref (ad 1), .int x1] ++ List.replicate (2 - (lg_sl [.ref (ad 1), .int x1]).length) Slot.unset).toArray) [] := by rw [hargs]; exact lg_entry_eq m _ 2
  have hl := lv_entry [.ref (ad 1), .int x1] (n := 2) (Nat.le_of_ble_eq_true rfl)
  rw [he]
  generalize (lg_sl [.ref (ad 1), .int x1] ++ List.replicate (2 - (lg_sl [.ref (ad 1), .int x1]).length) Slot.unset).toArray = ls at hl
  have hl : lv_has ls 2 [(0, .ref (ad 1)), (1, .int x1)] := hl
  obtain ⟨RR, hR⟩ : ∃ z, z = (headSpec (.code y_M_both prog_13_method_22_code 2 (some .boolean) :: zd_ww) { frames := fA + 8, cells := 0, slots := 0, locals := lA + 172 }).room := ⟨_, rfl⟩
  rw [← hR]
  obtain ⟨QQ, hQ⟩ : ∃ z, z = MQ below (zs_Qi 1 D cA ad A q) args s 0 0 A := ⟨_, rfl⟩
  rw [← hQ]
  have hR1 : fA + 8 ≤ RR.frames := by rw [hR]; exact Nat.le_refl _
  have hR2 : lA + 172 ≤ RR.locals := by rw [hR]; exact Nat.le_refl _
  generalize s.heap = H at hw ⊢
  generalize ([] : List Loc) = locs at hw ⊢
  have K10 : ∀ (n : Nat) (x1 : Int32) (σ : zs_S) (H : Heap) (locs : List Loc) (ls : Array Slot), zf_M_both_10 kA F n x1 σ = some q → zs_I 1 D cA ad A s σ H locs → lv_has ls 2 [(0, .ref (ad 1)), (1, .int x1)] → W p l e RR s m args below meth c H locs 0 0 QQ (F0 m 10 ls []) := by
    intro  n
    induction n with
    | zero => intro x1 σ H locs ls hf hw hl; exact nomatch (show (none : Option (Int32 × zs_S)) = some q from hf)
    | succ n ih =>
      intro x1 σ H locs ls hf hw hl
      rw [zf_M_both_10] at hf
      refine lv_aload_n hx hb d_M_both_10 rfl (lv_at hl 0 rfl) ?_
      refine zr_ldcw (own := "ScheduleCheckModel") (tx := "&&") (q := ad 1322) hx hb hown ((G.2.2.2.2 rfl).2.2.1 22 (by decide)) d_M_both_11 ?_
      obtain ⟨r5, σ4, hc6, hf⟩ := zq_cs hf
      refine zr_ci hw (zr_runV (rest := []) (ci := 8) (o := 1) G hw [.ref (ad 1322)] (zc_M_is hJ hc6) (cwV 1 hts (zs_gV zm_568 zm_569 zm_570 zm_551 zm_567) rfl rfl rfl (by decide +kernel) ⟨Nat.le_trans (show 4 + 1 ≤ fA + 8 by omega) hR1, Nat.le_trans (show 8 + (3 + 11) + (85) ≤ lA + 172 by omega) hR2⟩) rfl rfl rfl hl.1 (Nat.le_of_ble_eq_true rfl) d_M_both_14 ⟨Nat.zero_le _, Nat.zero_le _⟩) (fun H locs hw => ?_)
      refine lv_if_eq hx hb d_M_both_17 (tgt := 43) rfl (fun hc => ?_) (fun hc => ?_)
      · have hf := (if_pos hc).symm.trans hf
        refine lv_iconst (v := 1) hx hb d_M_both_43 (by decide) ?_
        exact zr_zret G hw hr hlocks (by decide) hf hQ d_M_both_44
      · have hf := (if_neg hc).symm.trans hf
        refine lv_aload_n hx hb d_M_both_20 rfl (lv_at hl 0 rfl) ?_
        obtain ⟨σ7, hc9, hf⟩ := zq_ds hf
        refine zr_cv hw (zr_runV (rest := []) (ci := 8) (o := 1) G hw [] (zc_M_step hJ hc9) (cwV 0 hts (zs_gV zm_572 zm_573 zm_574 zm_551 zm_571) rfl rfl rfl (by decide +kernel) ⟨Nat.le_trans (show 1 + 1 ≤ fA + 8 by omega) hR1, Nat.le_trans (show 8 + (5 + 11) + (60) ≤ lA + 172 by omega) hR2⟩) rfl rfl rfl hl.1 (Nat.le_of_ble_eq_true rfl) d_M_both_21 ⟨Nat.zero_le _, Nat.zero_le _⟩) (fun H locs hw => ?_)
        refine lv_aload_n hx hb d_M_both_24 rfl (lv_at hl 0 rfl) ?_
        refine lv_iload_n hx hb d_M_both_25 rfl (lv_at hl 1 rfl) ?_
        obtain ⟨r11, σ10, hc12, hf⟩ := zq_cs hf
        refine zr_ci hw (zr_runV (rest := []) (ci := 8) (o := 1) G hw [.int x1] (zc_M_comparison hA hJ hc12) (cwV 1 hts (zs_gV zm_693 zm_694 zm_695 zm_551 zm_692) rfl rfl rfl (by decide +kernel) ⟨Nat.le_trans (show fA + 7 + 1 ≤ fA + 8 by omega) hR1, Nat.le_trans (show 8 + (3 + 11) + (lA + 150) ≤ lA + 172 by omega) hR2⟩) rfl rfl rfl hl.1 (Nat.le_of_ble_eq_true rfl) d_M_both_26 ⟨Nat.zero_le _, Nat.zero_le _⟩) (fun H locs hw => ?_)
        refine lv_if_ne hx hb d_M_both_29 (tgt := 34) rfl (fun hc => ?_) (fun hc => ?_)
        · have hf := (if_neg hc).symm.trans hf
          refine lv_aload_n hx hb d_M_both_34 rfl (lv_at hl 0 rfl) ?_
          refine lv_bipush (v := 14) hx hb d_M_both_35 (by decide) ?_
          obtain ⟨σ13, hc15, hf⟩ := zq_ds hf
          refine zr_cv hw (zr_runV (rest := []) (ci := 8) (o := 1) G hw [.int 14] (zc_M_put hJ hc15) (cwV 1 hts (zs_gV zm_681 zm_682 zm_683 zm_551 zm_680) rfl rfl rfl (by decide +kernel) ⟨Nat.le_trans (show 0 + 1 ≤ fA + 8 by omega) hR1, Nat.le_trans (show 8 + (2 + 11) + (0) ≤ lA + 172 by omega) hR2⟩) rfl rfl rfl hl.1 (Nat.le_of_ble_eq_true rfl) d_M_both_37 ⟨Nat.zero_le _, Nat.zero_le _⟩) (fun H locs hw => ?_)
          refine lv_goto hx hb d_M_both_40 (tgt := 10) rfl ?_
          exact ih x1 σ13 H locs ls hf hw (lv_sub hl [0, 1] rfl)
        · have hf := (if_pos hc).symm.trans hf
          refine lv_iconst (v := 0) hx hb d_M_both_32 (by decide) ?_
          exact zr_zret G hw hr hlocks (by decide) hf hQ d_M_both_33
  unfold zf_M_both at hf
  refine lv_aload_n hx hb d_M_both_0 rfl (lv_at hl 0 rfl) ?_
  refine lv_iload_n hx hb d_M_both_1 rfl (lv_at hl 1 rfl) ?_
  obtain ⟨r2, σ1, hc3, hf⟩ := zq_cs hf
  refine zr_ci hw (zr_runV (rest := []) (ci := 8) (o := 1) G hw [.int x1] (zc_M_comparison hA hJ hc3) (cwV 1 hts (zs_gV zm_693 zm_694 zm_695 zm_551 zm_692) rfl rfl rfl (by decide +kernel) ⟨Nat.le_trans (show fA + 7 + 1 ≤ fA + 8 by omega) hR1, Nat.le_trans (show 8 + (3 + 11) + (lA + 150) ≤ lA + 172 by omega) hR2⟩) rfl rfl rfl hl.1 (Nat.le_of_ble_eq_true rfl) d_M_both_2 ⟨Nat.zero_le _, Nat.zero_le _⟩) (fun H locs hw => ?_)
  refine lv_if_ne hx hb d_M_both_5 (tgt := 10) rfl (fun hc => ?_) (fun hc => ?_)
  · have hf := (if_neg hc).symm.trans hf
    exact K10 F x1 σ1 H locs ls hf hw (lv_sub hl [0, 1] rfl)
  · have hf := (if_pos hc).symm.trans hf
    refine lv_iconst (v := 0) hx hb d_M_both_8 (by decide) ?_
    exact zr_zret G hw hr hlocks (by decide) hf hQ d_M_both_9
/-! ScheduleCheckModel.either -/
def y_M_either : MethodName := ⟨"ScheduleCheckModel","either","(I)Z"⟩
def zf_M_either_10 (kA : Int32 → zs_S → Option (Int32 × zs_S)) (F : Nat)  : Nat → Int32 → zs_S → Option (Int32 × zs_S)
  | 0, _, _ => none
  | n + 1, x1, σ =>
    zq_c (zf_M_is F 1321 σ) fun r5 σ4 =>
    if r5 = 0 then (
      some (1, σ4)
    ) else (
      zq_d (zf_M_step F σ4) fun σ7 =>
      zq_c (zf_M_both kA F x1 σ7) fun r11 σ10 =>
      if r11 = 0 then (
        some (0, σ10)
      ) else (
        zq_d (zf_M_put F 15 σ10) fun σ13 =>
        (zf_M_either_10 kA F n) x1 σ13
      )
    )
def zf_M_either (kA : Int32 → zs_S → Option (Int32 × zs_S)) (F : Nat) (x1 : Int32) (σ : zs_S) : Option (Int32 × zs_S) :=
  zq_c (zf_M_both kA F x1 σ) fun r2 σ1 =>
  if r2 = 0 then (
    some (0, σ1)
  ) else (
    zf_M_either_10 kA F F x1 σ1
  )
set_option maxHeartbeats 4000000 in
set_option maxRecDepth 100000 in
theorem zc_M_either {l : Launch} {D : va_G} {cA : Nat → ClassId} {ad : Nat → Nat} {A : Nat → Prop} {F : Nat} {x1 : Int32} {σ : zs_S} {q : Int32 × zs_S} {kA : Int32 → zs_S → Option (Int32 × zs_S)} {fA lA : Nat} (hA : ∀ {x1 : Int32} {σ : zs_S} {q : Int32 × zs_S}, kA x1 σ = some q → Met l y_M_atom (.code y_M_atom prog_13_method_26_code 4 (some .boolean) :: zd_ww) { frames := fA, cells := 0, slots := 0, locals := lA } (va_Pc [.ref (ad 1), .int x1] (zs_U 1 D cA ad A σ)) (zs_Qi 1 D cA ad A q) 0 0 A) (hJ : zs_J ad) (hf : zf_M_either kA F x1 σ = some q) : Met l y_M_either (.code y_M_either prog_13_method_21_code 2 (some .boolean) :: zd_ww) { frames := fA + 9, cells := 0, slots := 0, locals := lA + 193 } (va_Pc [.ref (ad 1), .int x1] (zs_U 1 D cA ad A σ)) (zs_Qi 1 D cA ad A q) 0 0 A := by
  refine Met.ofW (cc := prog_13_method_21_code) (maxL := 2) (ret := (some .boolean)) (by decide) rfl ?_
  intro p e s m args below meth c s₁ B hml hv
  obtain ⟨hargs, hP, hK, hD, hZ⟩ := hv
  have G : zs_G 1 p s m args c prog_13_method_21_code 2 "ScheduleCheckModel" D cA ad A := ⟨⟨B.exec, B.bytes, hml, findClass_of_methodNamed B.named, fun w h => atoms_spec B.pre w (List.mem_cons_of_mem _ h)⟩, hK, hJ, hZ⟩
  have hw : zs_I 1 D cA ad A s σ s.heap [] := ⟨hP, hD, va_S.rf⟩
  have hx := G.1.1
  have hb := G.1.2.1
  have hown := G.1.2.2.2.1
  have hts := G.1.2.2.2.2
  have hr := B.returns
  have hlocks := B.notSynchronized
  have he : entryFrame m args 2 = F0 m 0 ((lg_sl [.ref (ad 1), .int x1] ++ List.replicate (2 - (lg_sl [.ref (ad 1), .int x1]).length) Slot.unset).toArray) [] := by rw [hargs]; exact lg_entry_eq m _ 2
  have hl := lv_entry [.ref (ad 1), .int x1] (n := 2) (Nat.le_of_ble_eq_true rfl)
  rw [he]
  generalize (lg_sl [.ref (ad 1), .int x1] ++ List.replicate (2 - (lg_sl [.ref (ad 1), .int x1]).length) Slot.unset).toArray = ls at hl
  have hl : lv_has ls 2 [(0, .ref (ad 1)), (1, .int x1)] := hl
  obtain ⟨RR, hR⟩ : ∃ z, z = (headSpec (.code y_M_either prog_13_method_21_code 2 (some .boolean) :: zd_ww) { frames := fA + 9, cells := 0, slots := 0, locals := lA + 193 }).room := ⟨_, rfl⟩
  rw [← hR]
  obtain ⟨QQ, hQ⟩ : ∃ z, z = MQ below (zs_Qi 1 D cA ad A q) args s 0 0 A := ⟨_, rfl⟩
  rw [← hQ]
  have hR1 : fA + 9 ≤ RR.frames := by rw [hR]; exact Nat.le_refl _
  have hR2 : lA + 193 ≤ RR.locals := by rw [hR]; exact Nat.le_refl _
  generalize s.heap = H at hw ⊢
  generalize ([] : List Loc) = locs at hw ⊢
  have K10 : ∀ (n : Nat) (x1 : Int32) (σ : zs_S) (H : Heap) (locs : List Loc) (ls : Array Slot), zf_M_either_10 kA F n x1 σ = some q → zs_I 1 D cA ad A s σ H locs → lv_has ls 2 [(0, .ref (ad 1)), (1, .int x1)] → W p l e RR s m args below meth c H locs 0 0 QQ (F0 m 10 ls []) := by
    intro  n
    induction n with
    | zero => intro x1 σ H locs ls hf hw hl; exact nomatch (show (none : Option (Int32 × zs_S)) = some q from hf)
    | succ n ih =>
      intro x1 σ H locs ls hf hw hl
      rw [zf_M_either_10] at hf
      refine lv_aload_n hx hb d_M_either_10 rfl (lv_at hl 0 rfl) ?_
      refine zr_ldcw (own := "ScheduleCheckModel") (tx := "||") (q := ad 1321) hx hb hown ((G.2.2.2.2 rfl).2.2.1 21 (by decide)) d_M_either_11 ?_
      obtain ⟨r5, σ4, hc6, hf⟩ := zq_cs hf
      refine zr_ci hw (zr_runV (rest := []) (ci := 8) (o := 1) G hw [.ref (ad 1321)] (zc_M_is hJ hc6) (cwV 1 hts (zs_gV zm_568 zm_569 zm_570 zm_551 zm_567) rfl rfl rfl (by decide +kernel) ⟨Nat.le_trans (show 4 + 1 ≤ fA + 9 by omega) hR1, Nat.le_trans (show 8 + (3 + 11) + (85) ≤ lA + 193 by omega) hR2⟩) rfl rfl rfl hl.1 (Nat.le_of_ble_eq_true rfl) d_M_either_14 ⟨Nat.zero_le _, Nat.zero_le _⟩) (fun H locs hw => ?_)
      refine lv_if_eq hx hb d_M_either_17 (tgt := 43) rfl (fun hc => ?_) (fun hc => ?_)
      · have hf := (if_pos hc).symm.trans hf
        refine lv_iconst (v := 1) hx hb d_M_either_43 (by decide) ?_
        exact zr_zret G hw hr hlocks (by decide) hf hQ d_M_either_44
      · have hf := (if_neg hc).symm.trans hf
        refine lv_aload_n hx hb d_M_either_20 rfl (lv_at hl 0 rfl) ?_
        obtain ⟨σ7, hc9, hf⟩ := zq_ds hf
        refine zr_cv hw (zr_runV (rest := []) (ci := 8) (o := 1) G hw [] (zc_M_step hJ hc9) (cwV 0 hts (zs_gV zm_572 zm_573 zm_574 zm_551 zm_571) rfl rfl rfl (by decide +kernel) ⟨Nat.le_trans (show 1 + 1 ≤ fA + 9 by omega) hR1, Nat.le_trans (show 8 + (5 + 11) + (60) ≤ lA + 193 by omega) hR2⟩) rfl rfl rfl hl.1 (Nat.le_of_ble_eq_true rfl) d_M_either_21 ⟨Nat.zero_le _, Nat.zero_le _⟩) (fun H locs hw => ?_)
        refine lv_aload_n hx hb d_M_either_24 rfl (lv_at hl 0 rfl) ?_
        refine lv_iload_n hx hb d_M_either_25 rfl (lv_at hl 1 rfl) ?_
        obtain ⟨r11, σ10, hc12, hf⟩ := zq_cs hf
        refine zr_ci hw (zr_runV (rest := []) (ci := 8) (o := 1) G hw [.int x1] (zc_M_both hA hJ hc12) (cwV 1 hts (zs_gV zm_697 zm_698 zm_699 zm_551 zm_696) rfl rfl rfl (by decide +kernel) ⟨Nat.le_trans (show fA + 8 + 1 ≤ fA + 9 by omega) hR1, Nat.le_trans (show 8 + (2 + 11) + (lA + 172) ≤ lA + 193 by omega) hR2⟩) rfl rfl rfl hl.1 (Nat.le_of_ble_eq_true rfl) d_M_either_26 ⟨Nat.zero_le _, Nat.zero_le _⟩) (fun H locs hw => ?_)
        refine lv_if_ne hx hb d_M_either_29 (tgt := 34) rfl (fun hc => ?_) (fun hc => ?_)
        · have hf := (if_neg hc).symm.trans hf
          refine lv_aload_n hx hb d_M_either_34 rfl (lv_at hl 0 rfl) ?_
          refine lv_bipush (v := 15) hx hb d_M_either_35 (by decide) ?_
          obtain ⟨σ13, hc15, hf⟩ := zq_ds hf
          refine zr_cv hw (zr_runV (rest := []) (ci := 8) (o := 1) G hw [.int 15] (zc_M_put hJ hc15) (cwV 1 hts (zs_gV zm_681 zm_682 zm_683 zm_551 zm_680) rfl rfl rfl (by decide +kernel) ⟨Nat.le_trans (show 0 + 1 ≤ fA + 9 by omega) hR1, Nat.le_trans (show 8 + (2 + 11) + (0) ≤ lA + 193 by omega) hR2⟩) rfl rfl rfl hl.1 (Nat.le_of_ble_eq_true rfl) d_M_either_37 ⟨Nat.zero_le _, Nat.zero_le _⟩) (fun H locs hw => ?_)
          refine lv_goto hx hb d_M_either_40 (tgt := 10) rfl ?_
          exact ih x1 σ13 H locs ls hf hw (lv_sub hl [0, 1] rfl)
        · have hf := (if_pos hc).symm.trans hf
          refine lv_iconst (v := 0) hx hb d_M_either_32 (by decide) ?_
          exact zr_zret G hw hr hlocks (by decide) hf hQ d_M_either_33
  unfold zf_M_either at hf
  refine lv_aload_n hx hb d_M_either_0 rfl (lv_at hl 0 rfl) ?_
  refine lv_iload_n hx hb d_M_either_1 rfl (lv_at hl 1 rfl) ?_
  obtain ⟨r2, σ1, hc3, hf⟩ := zq_cs hf
  refine zr_ci hw (zr_runV (rest := []) (ci := 8) (o := 1) G hw [.int x1] (zc_M_both hA hJ hc3) (cwV 1 hts (zs_gV zm_697 zm_698 zm_699 zm_551 zm_696) rfl rfl rfl (by decide +kernel) ⟨Nat.le_trans (show fA + 8 + 1 ≤ fA + 9 by omega) hR1, Nat.le_trans (show 8 + (2 + 11) + (lA + 172) ≤ lA + 193 by omega) hR2⟩) rfl rfl rfl hl.1 (Nat.le_of_ble_eq_true rfl) d_M_either_2 ⟨Nat.zero_le _, Nat.zero_le _⟩) (fun H locs hw => ?_)
  refine lv_if_ne hx hb d_M_either_5 (tgt := 10) rfl (fun hc => ?_) (fun hc => ?_)
  · have hf := (if_neg hc).symm.trans hf
    exact K10 F x1 σ1 H locs ls hf hw (lv_sub hl [0, 1] rfl)
  · have hf := (if_pos hc).symm.trans hf
    refine lv_iconst (v := 0) hx hb d_M_either_8 (by decide) ?_
    exact zr_zret G hw hr hlocks (by decide) hf hQ d_M_either_9
/-! ScheduleCheckModel.atom -/
def zf_M_atom_b_270 (kA : Int32 → zs_S → Option (Int32 × zs_S)) (F : Nat)   (σ : zs_S) : Option (Int32 × zs_S) :=
  zq_v (zs_wi σ 1 14 ((zs_i σ 1 14) + 1)) fun σ61 =>
  zq_d (zf_M_step F σ61) fun σ62 =>
  some (1, σ62)
def zf_M_atom_b_267 (kA : Int32 → zs_S → Option (Int32 × zs_S)) (F : Nat)  (t0 : Int32) (σ : zs_S) : Option (Int32 × zs_S) :=
  zq_d (zf_M_put F t0 σ) fun σ68 =>
  zf_M_atom_b_270 kA F σ68
def zf_M_atom_b_254 (kA : Int32 → zs_S → Option (Int32 × zs_S)) (F : Nat)  (x2 : Int32) (x3 : Int32) (t0 : Int32) (σ : zs_S) : Option (Int32 × zs_S) :=
  zq_d (zf_M_put F t0 σ) fun σ65 =>
  if x2 < 0 then (
    zf_M_atom_b_267 kA F x3 σ65
  ) else (
    zf_M_atom_b_267 kA F x2 σ65
  )
def zf_M_atom_b_244 (kA : Int32 → zs_S → Option (Int32 × zs_S)) (F : Nat)  (x2 : Int32) (x3 : Int32) (σ : zs_S) : Option (Int32 × zs_S) :=
  if x2 < 0 then (
    zf_M_atom_b_254 kA F x2 x3 1 σ
  ) else (
    zf_M_atom_b_254 kA F x2 x3 2 σ
  )
def zf_M_atom_b_149 (kA : Int32 → zs_S → Option (Int32 × zs_S)) (F : Nat)   (σ : zs_S) : Option (Int32 × zs_S) :=
  zq_c (zf_M_bad F σ) fun r44 σ43 =>
  zq_g (zq_z r44) <|
  some (r44, σ43)
def zf_M_atom_b_139 (kA : Int32 → zs_S → Option (Int32 × zs_S)) (F : Nat)   (σ : zs_S) : Option (Int32 × zs_S) :=
  if (zs_i σ 1 14) = 150 then (
    zf_M_atom_b_149 kA F σ
  ) else (
    if (zs_i σ 1 7) = 2 then (
      zq_d (zf_M_put F 0 σ) fun σ37 =>
      zq_d (zf_M_put F (zs_i σ37 1 10) σ37) fun σ40 =>
      zf_M_atom_b_270 kA F σ40
    ) else (
      zq_q (zs_r σ 1 13) fun q22 =>
      zq_g (zq_k 1 q22 20) <|
      zq_c (zf_MN_find F q22 2 (zs_i σ 1 8) ((zs_i σ 1 9) - (zs_i σ 1 8)) σ) fun r24 σ23 =>
      zq_q (zs_r σ23 1 12) fun q27 =>
      zq_g (zq_k 1 q27 19) <|
      zq_q (zd_rf 1 q27 0) fun q29 =>
      zq_g (zq_k 1 q29 20) <|
      zq_c (zf_MN_find F q29 2 (zs_i σ23 1 8) ((zs_i σ23 1 9) - (zs_i σ23 1 8)) σ23) fun r31 σ30 =>
      if 0 ≤ r24 then (
        zf_M_atom_b_244 kA F r24 r31 σ30
      ) else (
        if 0 ≤ r31 then (
          zf_M_atom_b_244 kA F r24 r31 σ30
        ) else (
          zq_c (zf_M_bad F σ30) fun r35 σ34 =>
          zq_g (zq_z r35) <|
          some (r35, σ34)
        )
      )
    )
  )
def zf_M_atom_b_104 (kA : Int32 → zs_S → Option (Int32 × zs_S)) (F : Nat)  (t0 : Int32) (σ : zs_S) : Option (Int32 × zs_S) :=
  zq_g (zq_z t0) <|
  some (t0, σ)
def zf_M_atom_b_103 (kA : Int32 → zs_S → Option (Int32 × zs_S)) (F : Nat)   (σ : zs_S) : Option (Int32 × zs_S) :=
  zf_M_atom_b_104 kA F 0 σ
def zf_M_atom_b_69 (kA : Int32 → zs_S → Option (Int32 × zs_S)) (F : Nat)  (x1 : Int32) (t0 : Int32) (σ : zs_S) : Option (Int32 × zs_S) :=
  zq_d (zf_M_step F σ) fun σ46 =>
  if t0 = 16 then (
    zq_c (zf_M_either kA F (x1 + 1) σ46) fun r56 σ55 =>
    if r56 = 0 then (
      zf_M_atom_b_103 kA F σ55
    ) else (
      zq_c (zf_M_take F 1320 σ55) fun r59 σ58 =>
      if r59 = 0 then (
        zf_M_atom_b_103 kA F σ58
      ) else (
        zf_M_atom_b_104 kA F 1 σ58
      )
    )
  ) else (
    zq_c (kA (x1 + 1) σ46) fun r50 σ49 =>
    if r50 = 0 then (
      some (0, σ49)
    ) else (
      zq_d (zf_M_put F t0 σ49) fun σ52 =>
      some (1, σ52)
    )
  )
def zf_M_atom_b_28 (kA : Int32 → zs_S → Option (Int32 × zs_S)) (F : Nat)  (x1 : Int32) (σ : zs_S) : Option (Int32 × zs_S) :=
  if x1 = 8 then (
    zq_c (zf_M_bad F σ) fun r20 σ19 =>
    zq_g (zq_z r20) <|
    some (r20, σ19)
  ) else (
    zq_c (zf_M_is F 1319 σ) fun r14 σ13 =>
    if r14 = 0 then (
      zq_c (zf_M_is F 1315 σ13) fun r17 σ16 =>
      if r17 = 0 then (
        zf_M_atom_b_69 kA F x1 7 σ16
      ) else (
        zf_M_atom_b_69 kA F x1 6 σ16
      )
    ) else (
      zf_M_atom_b_69 kA F x1 16 σ13
    )
  )
def zf_M_atom_b (kA : Int32 → zs_S → Option (Int32 × zs_S)) (F : Nat) (x1 : Int32) (σ : zs_S) : Option (Int32 × zs_S) :=
  zq_c (zf_M_is F 1319 σ) fun r2 σ1 =>
  if r2 = 0 then (
    zq_c (zf_M_is F 1315 σ1) fun r5 σ4 =>
    if r5 = 0 then (
      zq_c (zf_M_is F 1331 σ4) fun r8 σ7 =>
      if r8 = 0 then (
        if (zs_i σ7 1 7) = 2 then (
          zf_M_atom_b_139 kA F σ7
        ) else (
          zq_c (zf_M_isName F σ7) fun r11 σ10 =>
          if r11 = 0 then (
            zf_M_atom_b_149 kA F σ10
          ) else (
            zf_M_atom_b_139 kA F σ10
          )
        )
      ) else (
        zf_M_atom_b_28 kA F x1 σ7
      )
    ) else (
      zf_M_atom_b_28 kA F x1 σ4
    )
  ) else (
    zf_M_atom_b_28 kA F x1 σ1
  )
set_option maxHeartbeats 4000000 in
set_option maxRecDepth 100000 in
theorem zc_M_atom_b {l : Launch} {D : va_G} {cA : Nat → ClassId} {ad : Nat → Nat} {A : Nat → Prop} {F : Nat} {x1 : Int32} {σ : zs_S} {q : Int32 × zs_S} {kA : Int32 → zs_S → Option (Int32 × zs_S)} {fA lA : Nat} (hA : ∀ {x1 : Int32} {σ : zs_S} {q : Int32 × zs_S}, kA x1 σ = some q → Met l y_M_atom (.code y_M_atom prog_13_method_26_code 4 (some .boolean) :: zd_ww) { frames := fA, cells := 0, slots := 0, locals := lA } (va_Pc [.ref (ad 1), .int x1] (zs_U 1 D cA ad A σ)) (zs_Qi 1 D cA ad A q) 0 0 A) (hJ : zs_J ad) (hf : zf_M_atom_b kA F x1 σ = some q) : Met l y_M_atom (.code y_M_atom prog_13_method_26_code 4 (some .boolean) :: zd_ww) { frames := fA + 10, cells := 0, slots := 0, locals := lA + 214 } (va_Pc [.ref (ad 1), .int x1] (zs_U 1 D cA ad A σ)) (zs_Qi 1 D cA ad A q) 0 0 A := by
  refine Met.ofW (cc := prog_13_method_26_code) (maxL := 4) (ret := (some .boolean)) (by decide) rfl ?_
  intro p e s m args below meth c s₁ B hml hv
  obtain ⟨hargs, hP, hK, hD, hZ⟩ := hv
  have G : zs_G 1 p s m args c prog_13_method_26_code 4 "ScheduleCheckModel" D cA ad A := ⟨⟨B.exec, B.bytes, hml, findClass_of_methodNamed B.named, fun w h => atoms_spec B.pre w (List.mem_cons_of_mem _ h)⟩, hK, hJ, hZ⟩
  have hw : zs_I 1 D cA ad A s σ s.heap [] := ⟨hP, hD, va_S.rf⟩
  have hx := G.1.1
  have hb := G.1.2.1
  have hown := G.1.2.2.2.1
  have hts := G.1.2.2.2.2
  have hr := B.returns
  have hlocks := B.notSynchronized
  have he : entryFrame m args 4 = F0 m 0 ((lg_sl [.ref (ad 1), .int x1] ++ List.replicate (4 - (lg_sl [.ref (ad 1), .int x1]).length) Slot.unset).toArray) [] := by rw [hargs]; exact lg_entry_eq m _ 4
  have hl := lv_entry [.ref (ad 1), .int x1] (n := 4) (Nat.le_of_ble_eq_true rfl)
  rw [he]
  generalize (lg_sl [.ref (ad 1), .int x1] ++ List.replicate (4 - (lg_sl [.ref (ad 1), .int x1]).length) Slot.unset).toArray = ls at hl
  have hl : lv_has ls 4 [(0, .ref (ad 1)), (1, .int x1)] := hl
  obtain ⟨RR, hR⟩ : ∃ z, z = (headSpec (.code y_M_atom prog_13_method_26_code 4 (some .boolean) :: zd_ww) { frames := fA + 10, cells := 0, slots := 0, locals := lA + 214 }).room := ⟨_, rfl⟩
  rw [← hR]
  obtain ⟨QQ, hQ⟩ : ∃ z, z = MQ below (zs_Qi 1 D cA ad A q) args s 0 0 A := ⟨_, rfl⟩
  rw [← hQ]
  have hR1 : fA + 10 ≤ RR.frames := by rw [hR]; exact Nat.le_refl _
  have hR2 : lA + 214 ≤ RR.locals := by rw [hR]; exact Nat.le_refl _
  generalize s.heap = H at hw ⊢
  generalize ([] : List Loc) = locs at hw ⊢
  have K270 : ∀ (σ : zs_S) (H : Heap) (locs : List Loc) (ls : Array Slot), zf_M_atom_b_270 kA F σ = some q → zs_I 1 D cA ad A s σ H locs → lv_has ls 4 [(0, .ref (ad 1))] → W p l e RR s m args below meth c H locs 0 0 QQ (F0 m 270 ls []) := by
    intro   σ H locs ls hf hw hl
    unfold zf_M_atom_b_270 at hf
    refine lv_aload_n hx hb d_M_atom_270 rfl (lv_at hl 0 rfl) ?_
    refine lv_dup hx hb d_M_atom_271 rfl ?_
    refine zr_get (ci := 8) G hw 1 14 zi_8 rfl rfl rfl (by decide) zm_700 (fun _ h => h) (v := .int (zs_i σ 1 14)) rfl d_M_atom_272 ?_
    refine lv_iconst (v := 1) hx hb d_M_atom_275 (by decide) ?_
    refine lv_iadd hx hb d_M_atom_276 ?_
    obtain ⟨σ61, e_σ61, hf⟩ := zq_ss hf
    refine zr_puti (ci := 8) G hw 1 14 zi_8 t_zd8 t_zd8_ok n_zd8 rfl rfl rfl (by decide) rfl zm_700 (fun _ h => h) rfl (x := ((zs_i σ 1 14) + 1)) (t_zd8_ok 14 (by decide)) rfl rfl d_M_atom_277 (fun H locs hw => ?_)
    rw [← e_σ61] at hw
    refine lv_aload_n hx hb d_M_atom_280 rfl (lv_at hl 0 rfl) ?_
    obtain ⟨σ62, hc64, hf⟩ := zq_ds hf
    refine zr_cv hw (zr_runV (rest := []) (ci := 8) (o := 1) G hw [] (zc_M_step hJ hc64) (cwV 0 hts (zs_gV zm_572 zm_573 zm_574 zm_551 zm_571) rfl rfl rfl (by decide +kernel) ⟨Nat.le_trans (show 1 + 1 ≤ fA + 10 by omega) hR1, Nat.le_trans (show 8 + (5 + 11) + (60) ≤ lA + 214 by omega) hR2⟩) rfl rfl rfl hl.1 (Nat.le_of_ble_eq_true rfl) d_M_atom_281 ⟨Nat.zero_le _, Nat.zero_le _⟩) (fun H locs hw => ?_)
    refine lv_iconst (v := 1) hx hb d_M_atom_284 (by decide) ?_
    exact zr_zret G hw hr hlocks (by decide) hf hQ d_M_atom_285
  have K267 : ∀ (t0 : Int32) (σ : zs_S) (H : Heap) (locs : List Loc) (ls : Array Slot), zf_M_atom_b_267 kA F t0 σ = some q → zs_I 1 D cA ad A s σ H locs → lv_has ls 4 [(0, .ref (ad 1))] → W p l e RR s m args below meth c H locs 0 0 QQ (F0 m 267 ls [.int t0, .ref (ad 1)]) := by
    intro  t0 σ H locs ls hf hw hl
    unfold zf_M_atom_b_267 at hf
    obtain ⟨σ68, hc70, hf⟩ := zq_ds hf
    refine zr_cv hw (zr_runV (rest := []) (ci := 8) (o := 1) G hw [.int t0] (zc_M_put hJ hc70) (cwV 1 hts (zs_gV zm_681 zm_682 zm_683 zm_551 zm_680) rfl rfl rfl (by decide +kernel) ⟨Nat.le_trans (show 0 + 1 ≤ fA + 10 by omega) hR1, Nat.le_trans (show 8 + (2 + 11) + (0) ≤ lA + 214 by omega) hR2⟩) rfl rfl rfl hl.1 (Nat.le_of_ble_eq_true rfl) d_M_atom_267 ⟨Nat.zero_le _, Nat.zero_le _⟩) (fun H locs hw => ?_)
    exact K270 σ68 H locs ls hf hw (lv_sub hl [0] rfl)
  have K254 : ∀ (x2 : Int32) (x3 : Int32) (t0 : Int32) (σ : zs_S) (H : Heap) (locs : List Loc) (ls : Array Slot), zf_M_atom_b_254 kA F x2 x3 t0 σ = some q → zs_I 1 D cA ad A s σ H locs → lv_has ls 4 [(0, .ref (ad 1)), (2, .int x2), (3, .int x3)] → W p l e RR s m args below meth c H locs 0 0 QQ (F0 m 254 ls [.int t0, .ref (ad 1)]) := by
    intro  x2 x3 t0 σ H locs ls hf hw hl
    unfold zf_M_atom_b_254 at hf
    obtain ⟨σ65, hc67, hf⟩ := zq_ds hf
    refine zr_cv hw (zr_runV (rest := []) (ci := 8) (o := 1) G hw [.int t0] (zc_M_put hJ hc67) (cwV 1 hts (zs_gV zm_681 zm_682 zm_683 zm_551 zm_680) rfl rfl rfl (by decide +kernel) ⟨Nat.le_trans (show 0 + 1 ≤ fA + 10 by omega) hR1, Nat.le_trans (show 8 + (2 + 11) + (0) ≤ lA + 214 by omega) hR2⟩) rfl rfl rfl hl.1 (Nat.le_of_ble_eq_true rfl) d_M_atom_254 ⟨Nat.zero_le _, Nat.zero_le _⟩) (fun H locs hw => ?_)
    refine lv_aload_n hx hb d_M_atom_257 rfl (lv_at hl 0 rfl) ?_
    refine lv_iload_n hx hb d_M_atom_258 rfl (lv_at hl 1 rfl) ?_
    refine lv_if_lt hx hb d_M_atom_259 (tgt := 266) rfl (fun hc => ?_) (fun hc => ?_)
    · have hf := (if_pos hc).symm.trans hf
      refine lv_iload_n hx hb d_M_atom_266 rfl (lv_at hl 2 rfl) ?_
      exact K267 x3 σ65 H locs ls hf hw (lv_sub hl [0] rfl)
    · have hf := (if_neg hc).symm.trans hf
      refine lv_iload_n hx hb d_M_atom_262 rfl (lv_at hl 1 rfl) ?_
      refine lv_goto hx hb d_M_atom_263 (tgt := 267) rfl ?_
      exact K267 x2 σ65 H locs ls hf hw (lv_sub hl [0] rfl)
  have K244 : ∀ (x2 : Int32) (x3 : Int32) (σ : zs_S) (H : Heap) (locs : List Loc) (ls : Array Slot), zf_M_atom_b_244 kA F x2 x3 σ = some q → zs_I 1 D cA ad A s σ H locs → lv_has ls 4 [(0, .ref (ad 1)), (2, .int x2), (3, .int x3)] → W p l e RR s m args below meth c H locs 0 0 QQ (F0 m 244 ls []) := by
    intro  x2 x3 σ H locs ls hf hw hl
    unfold zf_M_atom_b_244 at hf
    refine lv_aload_n hx hb d_M_atom_244 rfl (lv_at hl 0 rfl) ?_
    refine lv_iload_n hx hb d_M_atom_245 rfl (lv_at hl 1 rfl) ?_
    refine lv_if_lt hx hb d_M_atom_246 (tgt := 253) rfl (fun hc => ?_) (fun hc => ?_)
    · have hf := (if_pos hc).symm.trans hf
      refine lv_iconst (v := 1) hx hb d_M_atom_253 (by decide) ?_
      exact K254 x2 x3 1 σ H locs ls hf hw (lv_sub hl [0, 1, 2] rfl)
    · have hf := (if_neg hc).symm.trans hf
      refine lv_iconst (v := 2) hx hb d_M_atom_249 (by decide) ?_
      refine lv_goto hx hb d_M_atom_250 (tgt := 254) rfl ?_
      exact K254 x2 x3 2 σ H locs ls hf hw (lv_sub hl [0, 1, 2] rfl)
  have K149 : ∀ (σ : zs_S) (H : Heap) (locs : List Loc) (ls : Array Slot), zf_M_atom_b_149 kA F σ = some q → zs_I 1 D cA ad A s σ H locs → lv_has ls 4 [(0, .ref (ad 1))] → W p l e RR s m args below meth c H locs 0 0 QQ (F0 m 149 ls []) := by
    intro   σ H locs ls hf hw hl
    unfold zf_M_atom_b_149 at hf
    refine lv_aload_n hx hb d_M_atom_149 rfl (lv_at hl 0 rfl) ?_
    obtain ⟨r44, σ43, hc45, hf⟩ := zq_cs hf
    refine zr_ci hw (zr_runV (rest := []) (ci := 8) (o := 1) G hw [] (zc_M_bad hJ hc45) (cwV 0 hts (zs_gV zm_576 zm_577 zm_578 zm_551 zm_575) rfl rfl rfl (by decide +kernel) ⟨Nat.le_trans (show 0 + 1 ≤ fA + 10 by omega) hR1, Nat.le_trans (show 8 + (1 + 11) + (0) ≤ lA + 214 by omega) hR2⟩) rfl rfl rfl hl.1 (Nat.le_of_ble_eq_true rfl) d_M_atom_150 ⟨Nat.zero_le _, Nat.zero_le _⟩) (fun H locs hw => ?_)
    obtain ⟨hz, hf⟩ := zq_gs hf
    exact zr_zret G hw hr hlocks hz hf hQ d_M_atom_153
  have K139 : ∀ (σ : zs_S) (H : Heap) (locs : List Loc) (ls : Array Slot), zf_M_atom_b_139 kA F σ = some q → zs_I 1 D cA ad A s σ H locs → lv_has ls 4 [(0, .ref (ad 1))] → W p l e RR s m args below meth c H locs 0 0 QQ (F0 m 139 ls []) := by
    intro   σ H locs ls hf hw hl
    unfold zf_M_atom_b_139 at hf
    refine lv_aload_n hx hb d_M_atom_139 rfl (lv_at hl 0 rfl) ?_
    refine zr_get (ci := 8) G hw 1 14 zi_8 rfl rfl rfl (by decide) zm_700 (fun _ h => h) (v := .int (zs_i σ 1 14)) rfl d_M_atom_140 ?_
    refine lv_sipush (v := 150) hx hb d_M_atom_143 (by decide) ?_
    refine lv_icmp_ne hx hb d_M_atom_146 (tgt := 154) rfl (fun hc => ?_) (fun hc => ?_)
    · have hf := (if_neg hc).symm.trans hf
      refine lv_aload_n hx hb d_M_atom_154 rfl (lv_at hl 0 rfl) ?_
      refine zr_get (ci := 8) G hw 1 7 zi_8 rfl rfl rfl (by decide) zm_556 (fun _ h => h) (v := .int (zs_i σ 1 7)) rfl d_M_atom_155 ?_
      refine lv_iconst (v := 2) hx hb d_M_atom_158 (by decide) ?_
      refine lv_icmp_ne hx hb d_M_atom_159 (tgt := 178) rfl (fun hc => ?_) (fun hc => ?_)
      · have hf := (if_neg hc).symm.trans hf
        refine lv_aload_n hx hb d_M_atom_178 rfl (lv_at hl 0 rfl) ?_
        obtain ⟨q22, e_q22, h_q22, hf⟩ := zq_qs hf
        refine zr_get (ci := 8) G hw 1 13 zi_8 rfl rfl rfl (by decide) zm_701 (fun _ h => h) (v := .ref (ad q22)) (zs_fr rfl e_q22 h_q22) d_M_atom_179 ?_
        refine lv_aload_n hx hb d_M_atom_182 rfl (lv_at hl 0 rfl) ?_
        refine zr_get (ci := 8) G hw 1 0 zi_8 rfl rfl rfl (by decide) zm_547 (fun _ h => h) (v := .ref (ad 2)) rfl d_M_atom_183 ?_
        refine lv_aload_n hx hb d_M_atom_186 rfl (lv_at hl 0 rfl) ?_
        refine zr_get (ci := 8) G hw 1 8 zi_8 rfl rfl rfl (by decide) zm_544 (fun _ h => h) (v := .int (zs_i σ 1 8)) rfl d_M_atom_187 ?_
        refine lv_aload_n hx hb d_M_atom_190 rfl (lv_at hl 0 rfl) ?_
        refine zr_get (ci := 8) G hw 1 9 zi_8 rfl rfl rfl (by decide) zm_558 (fun _ h => h) (v := .int (zs_i σ 1 9)) rfl d_M_atom_191 ?_
        refine lv_aload_n hx hb d_M_atom_194 rfl (lv_at hl 0 rfl) ?_
        refine zr_get (ci := 8) G hw 1 8 zi_8 rfl rfl rfl (by decide) zm_544 (fun _ h => h) (v := .int (zs_i σ 1 8)) rfl d_M_atom_195 ?_
        refine lv_isub hx hb d_M_atom_198 ?_
        obtain ⟨hs26, hf⟩ := zq_gs hf
        have hs26 := zq_ks hs26
        obtain ⟨r24, σ23, hc25, hf⟩ := zq_cs hf
        refine zr_ci hw (zr_runV (rest := []) (ci := 10) (o := q22) G hw [.ref (ad 2), .int (zs_i σ 1 8), .int ((zs_i σ 1 9) - (zs_i σ 1 8))] (zc_MN_find hJ hc25) (cwV 3 hts (zs_gV zm_599 zm_600 zm_601 zm_602 zm_598) rfl rfl rfl (by decide +kernel) ⟨Nat.le_trans (show 0 + 1 ≤ fA + 10 by omega) hR1, Nat.le_trans (show 8 + (7 + 11) + (0) ≤ lA + 214 by omega) hR2⟩) hs26 rfl rfl hl.1 (Nat.le_of_ble_eq_true rfl) d_M_atom_199 ⟨Nat.zero_le _, Nat.zero_le _⟩) (fun H locs hw => ?_)
        refine lv_istore_n hx hb d_M_atom_202 rfl hl (by decide) rfl (fun ls hl => ?_)
        have hl : lv_has ls 4 [(2, .int r24), (0, .ref (ad 1))] := hl
        refine lv_aload_n hx hb d_M_atom_203 rfl (lv_at hl 1 rfl) ?_
        obtain ⟨q27, e_q27, h_q27, hf⟩ := zq_qs hf
        refine zr_get (ci := 8) G hw 1 12 zi_8 rfl rfl rfl (by decide) zm_583 (fun _ h => h) (v := .ref (ad q27)) (zs_fr rfl e_q27 h_q27) d_M_atom_204 ?_
        obtain ⟨hs28, hf⟩ := zq_gs hf
        have hs28 := zq_ks hs28
        obtain ⟨q29, e_q29, h_q29, hf⟩ := zq_qs hf
        refine zr_get (ci := 9) G hw q27 0 zi_9 hs28 rfl rfl (by decide) zm_591 (fun _ h => h) (v := .ref (ad q29)) (zs_fs rfl e_q29 h_q29) d_M_atom_207 ?_
        refine lv_aload_n hx hb d_M_atom_210 rfl (lv_at hl 1 rfl) ?_
        refine zr_get (ci := 8) G hw 1 0 zi_8 rfl rfl rfl (by decide) zm_547 (fun _ h => h) (v := .ref (ad 2)) rfl d_M_atom_211 ?_
        refine lv_aload_n hx hb d_M_atom_214 rfl (lv_at hl 1 rfl) ?_
        refine zr_get (ci := 8) G hw 1 8 zi_8 rfl rfl rfl (by decide) zm_544 (fun _ h => h) (v := .int (zs_i σ23 1 8)) rfl d_M_atom_215 ?_
        refine lv_aload_n hx hb d_M_atom_218 rfl (lv_at hl 1 rfl) ?_
        refine zr_get (ci := 8) G hw 1 9 zi_8 rfl rfl rfl (by decide) zm_558 (fun _ h => h) (v := .int (zs_i σ23 1 9)) rfl d_M_atom_219 ?_
        refine lv_aload_n hx hb d_M_atom_222 rfl (lv_at hl 1 rfl) ?_
        refine zr_get (ci := 8) G hw 1 8 zi_8 rfl rfl rfl (by decide) zm_544 (fun _ h => h) (v := .int (zs_i σ23 1 8)) rfl d_M_atom_223 ?_
        refine lv_isub hx hb d_M_atom_226 ?_
        obtain ⟨hs33, hf⟩ := zq_gs hf
        have hs33 := zq_ks hs33
        obtain ⟨r31, σ30, hc32, hf⟩ := zq_cs hf
        refine zr_ci hw (zr_runV (rest := []) (ci := 10) (o := q29) G hw [.ref (ad 2), .int (zs_i σ23 1 8), .int ((zs_i σ23 1 9) - (zs_i σ23 1 8))] (zc_MN_find hJ hc32) (cwV 3 hts (zs_gV zm_599 zm_600 zm_601 zm_602 zm_598) rfl rfl rfl (by decide +kernel) ⟨Nat.le_trans (show 0 + 1 ≤ fA + 10 by omega) hR1, Nat.le_trans (show 8 + (7 + 11) + (0) ≤ lA + 214 by omega) hR2⟩) hs33 rfl rfl hl.1 (Nat.le_of_ble_eq_true rfl) d_M_atom_227 ⟨Nat.zero_le _, Nat.zero_le _⟩) (fun H locs hw => ?_)
        refine lv_istore_n hx hb d_M_atom_230 rfl hl (by decide) rfl (fun ls hl => ?_)
        have hl : lv_has ls 4 [(3, .int r31), (2, .int r24), (0, .ref (ad 1))] := hl
        refine lv_iload_n hx hb d_M_atom_231 rfl (lv_at hl 1 rfl) ?_
        refine lv_if_ge hx hb d_M_atom_232 (tgt := 244) rfl (fun hc => ?_) (fun hc => ?_)
        · have hf := (if_pos hc).symm.trans hf
          exact K244 r24 r31 σ30 H locs ls hf hw (lv_sub hl [2, 1, 0] rfl)
        · have hf := (if_neg hc).symm.trans hf
          refine lv_iload_n hx hb d_M_atom_235 rfl (lv_at hl 0 rfl) ?_
          refine lv_if_ge hx hb d_M_atom_236 (tgt := 244) rfl (fun hc => ?_) (fun hc => ?_)
          · have hf := (if_pos hc).symm.trans hf
            exact K244 r24 r31 σ30 H locs ls hf hw (lv_sub hl [2, 1, 0] rfl)
          · have hf := (if_neg hc).symm.trans hf
            refine lv_aload_n hx hb d_M_atom_239 rfl (lv_at hl 2 rfl) ?_
            obtain ⟨r35, σ34, hc36, hf⟩ := zq_cs hf
            refine zr_ci hw (zr_runV (rest := []) (ci := 8) (o := 1) G hw [] (zc_M_bad hJ hc36) (cwV 0 hts (zs_gV zm_576 zm_577 zm_578 zm_551 zm_575) rfl rfl rfl (by decide +kernel) ⟨Nat.le_trans (show 0 + 1 ≤ fA + 10 by omega) hR1, Nat.le_trans (show 8 + (1 + 11) + (0) ≤ lA + 214 by omega) hR2⟩) rfl rfl rfl hl.1 (Nat.le_of_ble_eq_true rfl) d_M_atom_240 ⟨Nat.zero_le _, Nat.zero_le _⟩) (fun H locs hw => ?_)
            obtain ⟨hz, hf⟩ := zq_gs hf
            exact zr_zret G hw hr hlocks hz hf hQ d_M_atom_243
      · have hf := (if_pos hc).symm.trans hf
        refine lv_aload_n hx hb d_M_atom_162 rfl (lv_at hl 0 rfl) ?_
        refine lv_iconst (v := 0) hx hb d_M_atom_163 (by decide) ?_
        obtain ⟨σ37, hc39, hf⟩ := zq_ds hf
        refine zr_cv hw (zr_runV (rest := []) (ci := 8) (o := 1) G hw [.int 0] (zc_M_put hJ hc39) (cwV 1 hts (zs_gV zm_681 zm_682 zm_683 zm_551 zm_680) rfl rfl rfl (by decide +kernel) ⟨Nat.le_trans (show 0 + 1 ≤ fA + 10 by omega) hR1, Nat.le_trans (show 8 + (2 + 11) + (0) ≤ lA + 214 by omega) hR2⟩) rfl rfl rfl hl.1 (Nat.le_of_ble_eq_true rfl) d_M_atom_164 ⟨Nat.zero_le _, Nat.zero_le _⟩) (fun H locs hw => ?_)
        refine lv_aload_n hx hb d_M_atom_167 rfl (lv_at hl 0 rfl) ?_
        refine lv_aload_n hx hb d_M_atom_168 rfl (lv_at hl 0 rfl) ?_
        refine zr_get (ci := 8) G hw 1 10 zi_8 rfl rfl rfl (by decide) zm_555 (fun _ h => h) (v := .int (zs_i σ37 1 10)) rfl d_M_atom_169 ?_
        obtain ⟨σ40, hc42, hf⟩ := zq_ds hf
        refine zr_cv hw (zr_runV (rest := []) (ci := 8) (o := 1) G hw [.int (zs_i σ37 1 10)] (zc_M_put hJ hc42) (cwV 1 hts (zs_gV zm_681 zm_682 zm_683 zm_551 zm_680) rfl rfl rfl (by decide +kernel) ⟨Nat.le_trans (show 0 + 1 ≤ fA + 10 by omega) hR1, Nat.le_trans (show 8 + (2 + 11) + (0) ≤ lA + 214 by omega) hR2⟩) rfl rfl rfl hl.1 (Nat.le_of_ble_eq_true rfl) d_M_atom_172 ⟨Nat.zero_le _, Nat.zero_le _⟩) (fun H locs hw => ?_)
        refine lv_goto hx hb d_M_atom_175 (tgt := 270) rfl ?_
        exact K270 σ40 H locs ls hf hw (lv_sub hl [0] rfl)
    · have hf := (if_pos hc).symm.trans hf
      exact K149 σ H locs ls hf hw (lv_sub hl [0] rfl)
  have K104 : ∀ (t0 : Int32) (σ : zs_S) (H : Heap) (locs : List Loc) (ls : Array Slot), zf_M_atom_b_104 kA F t0 σ = some q → zs_I 1 D cA ad A s σ H locs → lv_has ls 4 [] → W p l e RR s m args below meth c H locs 0 0 QQ (F0 m 104 ls [.int t0]) := by
    intro  t0 σ H locs ls hf hw hl
    unfold zf_M_atom_b_104 at hf
    obtain ⟨hz, hf⟩ := zq_gs hf
    exact zr_zret G hw hr hlocks hz hf hQ d_M_atom_104
  have K103 : ∀ (σ : zs_S) (H : Heap) (locs : List Loc) (ls : Array Slot), zf_M_atom_b_103 kA F σ = some q → zs_I 1 D cA ad A s σ H locs → lv_has ls 4 [] → W p l e RR s m args below meth c H locs 0 0 QQ (F0 m 103 ls []) := by
    intro   σ H locs ls hf hw hl
    unfold zf_M_atom_b_103 at hf
    refine lv_iconst (v := 0) hx hb d_M_atom_103 (by decide) ?_
    exact K104 0 σ H locs ls hf hw (lv_sub hl [] rfl)
  have K69 : ∀ (x1 : Int32) (t0 : Int32) (σ : zs_S) (H : Heap) (locs : List Loc) (ls : Array Slot), zf_M_atom_b_69 kA F x1 t0 σ = some q → zs_I 1 D cA ad A s σ H locs → lv_has ls 4 [(0, .ref (ad 1)), (1, .int x1)] → W p l e RR s m args below meth c H locs 0 0 QQ (F0 m 69 ls [.int t0]) := by
    intro  x1 t0 σ H locs ls hf hw hl
    unfold zf_M_atom_b_69 at hf
    refine lv_istore_n hx hb d_M_atom_69 rfl hl (by decide) rfl (fun ls hl => ?_)
    have hl : lv_has ls 4 [(2, .int t0), (0, .ref (ad 1)), (1, .int x1)] := hl
    refine lv_aload_n hx hb d_M_atom_70 rfl (lv_at hl 1 rfl) ?_
    obtain ⟨σ46, hc48, hf⟩ := zq_ds hf
    refine zr_cv hw (zr_runV (rest := []) (ci := 8) (o := 1) G hw [] (zc_M_step hJ hc48) (cwV 0 hts (zs_gV zm_572 zm_573 zm_574 zm_551 zm_571) rfl rfl rfl (by decide +kernel) ⟨Nat.le_trans (show 1 + 1 ≤ fA + 10 by omega) hR1, Nat.le_trans (show 8 + (5 + 11) + (60) ≤ lA + 214 by omega) hR2⟩) rfl rfl rfl hl.1 (Nat.le_of_ble_eq_true rfl) d_M_atom_71 ⟨Nat.zero_le _, Nat.zero_le _⟩) (fun H locs hw => ?_)
    refine lv_iload_n hx hb d_M_atom_74 rfl (lv_at hl 0 rfl) ?_
    refine lv_bipush (v := 16) hx hb d_M_atom_75 (by decide) ?_
    refine lv_icmp_ne hx hb d_M_atom_77 (tgt := 105) rfl (fun hc => ?_) (fun hc => ?_)
    · have hf := (if_neg hc).symm.trans hf
      refine lv_aload_n hx hb d_M_atom_105 rfl (lv_at hl 1 rfl) ?_
      refine lv_iload_n hx hb d_M_atom_106 rfl (lv_at hl 2 rfl) ?_
      refine lv_iconst (v := 1) hx hb d_M_atom_107 (by decide) ?_
      refine lv_iadd hx hb d_M_atom_108 ?_
      obtain ⟨r50, σ49, hc51, hf⟩ := zq_cs hf
      refine zr_ci hw (zr_runV (rest := []) (ci := 8) (o := 1) G hw [.int (x1 + 1)] (hA hc51) (cwV 1 hts (zs_gV zm_677 zm_678 zm_679 zm_551 zm_676) rfl rfl rfl (by decide +kernel) ⟨Nat.le_trans (show fA + 1 ≤ fA + 10 by omega) hR1, Nat.le_trans (show 8 + (4 + 11) + (lA) ≤ lA + 214 by omega) hR2⟩) rfl rfl rfl hl.1 (Nat.le_of_ble_eq_true rfl) d_M_atom_109 ⟨Nat.zero_le _, Nat.zero_le _⟩) (fun H locs hw => ?_)
      refine lv_if_ne hx hb d_M_atom_112 (tgt := 117) rfl (fun hc => ?_) (fun hc => ?_)
      · have hf := (if_neg hc).symm.trans hf
        refine lv_aload_n hx hb d_M_atom_117 rfl (lv_at hl 1 rfl) ?_
        refine lv_iload_n hx hb d_M_atom_118 rfl (lv_at hl 0 rfl) ?_
        obtain ⟨σ52, hc54, hf⟩ := zq_ds hf
        refine zr_cv hw (zr_runV (rest := []) (ci := 8) (o := 1) G hw [.int t0] (zc_M_put hJ hc54) (cwV 1 hts (zs_gV zm_681 zm_682 zm_683 zm_551 zm_680) rfl rfl rfl (by decide +kernel) ⟨Nat.le_trans (show 0 + 1 ≤ fA + 10 by omega) hR1, Nat.le_trans (show 8 + (2 + 11) + (0) ≤ lA + 214 by omega) hR2⟩) rfl rfl rfl hl.1 (Nat.le_of_ble_eq_true rfl) d_M_atom_119 ⟨Nat.zero_le _, Nat.zero_le _⟩) (fun H locs hw => ?_)
        refine lv_iconst (v := 1) hx hb d_M_atom_122 (by decide) ?_
        exact zr_zret G hw hr hlocks (by decide) hf hQ d_M_atom_123
      · have hf := (if_pos hc).symm.trans hf
        refine lv_iconst (v := 0) hx hb d_M_atom_115 (by decide) ?_
        exact zr_zret G hw hr hlocks (by decide) hf hQ d_M_atom_116
    · have hf := (if_pos hc).symm.trans hf
      refine lv_aload_n hx hb d_M_atom_80 rfl (lv_at hl 1 rfl) ?_
      refine lv_iload_n hx hb d_M_atom_81 rfl (lv_at hl 2 rfl) ?_
      refine lv_iconst (v := 1) hx hb d_M_atom_82 (by decide) ?_
      refine lv_iadd hx hb d_M_atom_83 ?_
      obtain ⟨r56, σ55, hc57, hf⟩ := zq_cs hf
      refine zr_ci hw (zr_runV (rest := []) (ci := 8) (o := 1) G hw [.int (x1 + 1)] (zc_M_either hA hJ hc57) (cwV 1 hts (zs_gV zm_703 zm_704 zm_705 zm_551 zm_702) rfl rfl rfl (by decide +kernel) ⟨Nat.le_trans (show fA + 9 + 1 ≤ fA + 10 by omega) hR1, Nat.le_trans (show 8 + (2 + 11) + (lA + 193) ≤ lA + 214 by omega) hR2⟩) rfl rfl rfl hl.1 (Nat.le_of_ble_eq_true rfl) d_M_atom_84 ⟨Nat.zero_le _, Nat.zero_le _⟩) (fun H locs hw => ?_)
      refine lv_if_eq hx hb d_M_atom_87 (tgt := 103) rfl (fun hc => ?_) (fun hc => ?_)
      · have hf := (if_pos hc).symm.trans hf
        exact K103 σ55 H locs ls hf hw (lv_sub hl [] rfl)
      · have hf := (if_neg hc).symm.trans hf
        refine lv_aload_n hx hb d_M_atom_90 rfl (lv_at hl 1 rfl) ?_
        refine va_ldcS (own := "ScheduleCheckModel") (tx := ")") (q := ad 1320) hx hb hown ((G.2.2.2.2 rfl).2.2.1 20 (by decide)) d_M_atom_91 ?_
        obtain ⟨r59, σ58, hc60, hf⟩ := zq_cs hf
        refine zr_ci hw (zr_runV (rest := []) (ci := 8) (o := 1) G hw [.ref (ad 1320)] (zc_M_take hJ hc60) (cwV 1 hts (zs_gV zm_609 zm_610 zm_611 zm_551 zm_608) rfl rfl rfl (by decide +kernel) ⟨Nat.le_trans (show 5 + 1 ≤ fA + 10 by omega) hR1, Nat.le_trans (show 8 + (2 + 11) + (107) ≤ lA + 214 by omega) hR2⟩) rfl rfl rfl hl.1 (Nat.le_of_ble_eq_true rfl) d_M_atom_93 ⟨Nat.zero_le _, Nat.zero_le _⟩) (fun H locs hw => ?_)
        refine lv_if_eq hx hb d_M_atom_96 (tgt := 103) rfl (fun hc => ?_) (fun hc => ?_)
        · have hf := (if_pos hc).symm.trans hf
          exact K103 σ58 H locs ls hf hw (lv_sub hl [] rfl)
        · have hf := (if_neg hc).symm.trans hf
          refine lv_iconst (v := 1) hx hb d_M_atom_99 (by decide) ?_
          refine lv_goto hx hb d_M_atom_100 (tgt := 104) rfl ?_
          exact K104 1 σ58 H locs ls hf hw (lv_sub hl [] rfl)
  have K28 : ∀ (x1 : Int32) (σ : zs_S) (H : Heap) (locs : List Loc) (ls : Array Slot), zf_M_atom_b_28 kA F x1 σ = some q → zs_I 1 D cA ad A s σ H locs → lv_has ls 4 [(0, .ref (ad 1)), (1, .int x1)] → W p l e RR s m args below meth c H locs 0 0 QQ (F0 m 28 ls []) := by
    intro  x1 σ H locs ls hf hw hl
    unfold zf_M_atom_b_28 at hf
    refine lv_iload_n hx hb d_M_atom_28 rfl (lv_at hl 1 rfl) ?_
    refine lv_bipush (v := 8) hx hb d_M_atom_29 (by decide) ?_
    refine lv_icmp_ne hx hb d_M_atom_31 (tgt := 39) rfl (fun hc => ?_) (fun hc => ?_)
    · have hf := (if_neg hc).symm.trans hf
      refine lv_aload_n hx hb d_M_atom_39 rfl (lv_at hl 0 rfl) ?_
      refine va_ldcS (own := "ScheduleCheckModel") (tx := "(") (q := ad 1319) hx hb hown ((G.2.2.2.2 rfl).2.2.1 19 (by decide)) d_M_atom_40 ?_
      obtain ⟨r14, σ13, hc15, hf⟩ := zq_cs hf
      refine zr_ci hw (zr_runV (rest := []) (ci := 8) (o := 1) G hw [.ref (ad 1319)] (zc_M_is hJ hc15) (cwV 1 hts (zs_gV zm_568 zm_569 zm_570 zm_551 zm_567) rfl rfl rfl (by decide +kernel) ⟨Nat.le_trans (show 4 + 1 ≤ fA + 10 by omega) hR1, Nat.le_trans (show 8 + (3 + 11) + (85) ≤ lA + 214 by omega) hR2⟩) rfl rfl rfl hl.1 (Nat.le_of_ble_eq_true rfl) d_M_atom_42 ⟨Nat.zero_le _, Nat.zero_le _⟩) (fun H locs hw => ?_)
      refine lv_if_eq hx hb d_M_atom_45 (tgt := 53) rfl (fun hc => ?_) (fun hc => ?_)
      · have hf := (if_pos hc).symm.trans hf
        refine lv_aload_n hx hb d_M_atom_53 rfl (lv_at hl 0 rfl) ?_
        refine va_ldcS (own := "ScheduleCheckModel") (tx := "-") (q := ad 1315) hx hb hown ((G.2.2.2.2 rfl).2.2.1 15 (by decide)) d_M_atom_54 ?_
        obtain ⟨r17, σ16, hc18, hf⟩ := zq_cs hf
        refine zr_ci hw (zr_runV (rest := []) (ci := 8) (o := 1) G hw [.ref (ad 1315)] (zc_M_is hJ hc18) (cwV 1 hts (zs_gV zm_568 zm_569 zm_570 zm_551 zm_567) rfl rfl rfl (by decide +kernel) ⟨Nat.le_trans (show 4 + 1 ≤ fA + 10 by omega) hR1, Nat.le_trans (show 8 + (3 + 11) + (85) ≤ lA + 214 by omega) hR2⟩) rfl rfl rfl hl.1 (Nat.le_of_ble_eq_true rfl) d_M_atom_56 ⟨Nat.zero_le _, Nat.zero_le _⟩) (fun H locs hw => ?_)
        refine lv_if_eq hx hb d_M_atom_59 (tgt := 67) rfl (fun hc => ?_) (fun hc => ?_)
        · have hf := (if_pos hc).symm.trans hf
          refine lv_bipush (v := 7) hx hb d_M_atom_67 (by decide) ?_
          exact K69 x1 7 σ16 H locs ls hf hw (lv_sub hl [0, 1] rfl)
        · have hf := (if_neg hc).symm.trans hf
          refine lv_bipush (v := 6) hx hb d_M_atom_62 (by decide) ?_
          refine lv_goto hx hb d_M_atom_64 (tgt := 69) rfl ?_
          exact K69 x1 6 σ16 H locs ls hf hw (lv_sub hl [0, 1] rfl)
      · have hf := (if_neg hc).symm.trans hf
        refine lv_bipush (v := 16) hx hb d_M_atom_48 (by decide) ?_
        refine lv_goto hx hb d_M_atom_50 (tgt := 69) rfl ?_
        exact K69 x1 16 σ13 H locs ls hf hw (lv_sub hl [0, 1] rfl)
    · have hf := (if_pos hc).symm.trans hf
      refine lv_aload_n hx hb d_M_atom_34 rfl (lv_at hl 0 rfl) ?_
      obtain ⟨r20, σ19, hc21, hf⟩ := zq_cs hf
      refine zr_ci hw (zr_runV (rest := []) (ci := 8) (o := 1) G hw [] (zc_M_bad hJ hc21) (cwV 0 hts (zs_gV zm_576 zm_577 zm_578 zm_551 zm_575) rfl rfl rfl (by decide +kernel) ⟨Nat.le_trans (show 0 + 1 ≤ fA + 10 by omega) hR1, Nat.le_trans (show 8 + (1 + 11) + (0) ≤ lA + 214 by omega) hR2⟩) rfl rfl rfl hl.1 (Nat.le_of_ble_eq_true rfl) d_M_atom_35 ⟨Nat.zero_le _, Nat.zero_le _⟩) (fun H locs hw => ?_)
      obtain ⟨hz, hf⟩ := zq_gs hf
      exact zr_zret G hw hr hlocks hz hf hQ d_M_atom_38
  unfold zf_M_atom_b at hf
  refine lv_aload_n hx hb d_M_atom_0 rfl (lv_at hl 0 rfl) ?_
  refine va_ldcS (own := "ScheduleCheckModel") (tx := "(") (q := ad 1319) hx hb hown ((G.2.2.2.2 rfl).2.2.1 19 (by decide)) d_M_atom_1 ?_
  obtain ⟨r2, σ1, hc3, hf⟩ := zq_cs hf
  refine zr_ci hw (zr_runV (rest := []) (ci := 8) (o := 1) G hw [.ref (ad 1319)] (zc_M_is hJ hc3) (cwV 1 hts (zs_gV zm_568 zm_569 zm_570 zm_551 zm_567) rfl rfl rfl (by decide +kernel) ⟨Nat.le_trans (show 4 + 1 ≤ fA + 10 by omega) hR1, Nat.le_trans (show 8 + (3 + 11) + (85) ≤ lA + 214 by omega) hR2⟩) rfl rfl rfl hl.1 (Nat.le_of_ble_eq_true rfl) d_M_atom_3 ⟨Nat.zero_le _, Nat.zero_le _⟩) (fun H locs hw => ?_)
  refine lv_if_ne hx hb d_M_atom_6 (tgt := 28) rfl (fun hc => ?_) (fun hc => ?_)
  · have hf := (if_neg hc).symm.trans hf
    exact K28 x1 σ1 H locs ls hf hw (lv_sub hl [0, 1] rfl)
  · have hf := (if_pos hc).symm.trans hf
    refine lv_aload_n hx hb d_M_atom_9 rfl (lv_at hl 0 rfl) ?_
    refine va_ldcS (own := "ScheduleCheckModel") (tx := "-") (q := ad 1315) hx hb hown ((G.2.2.2.2 rfl).2.2.1 15 (by decide)) d_M_atom_10 ?_
    obtain ⟨r5, σ4, hc6, hf⟩ := zq_cs hf
    refine zr_ci hw (zr_runV (rest := []) (ci := 8) (o := 1) G hw [.ref (ad 1315)] (zc_M_is hJ hc6) (cwV 1 hts (zs_gV zm_568 zm_569 zm_570 zm_551 zm_567) rfl rfl rfl (by decide +kernel) ⟨Nat.le_trans (show 4 + 1 ≤ fA + 10 by omega) hR1, Nat.le_trans (show 8 + (3 + 11) + (85) ≤ lA + 214 by omega) hR2⟩) rfl rfl rfl hl.1 (Nat.le_of_ble_eq_true rfl) d_M_atom_12 ⟨Nat.zero_le _, Nat.zero_le _⟩) (fun H locs hw => ?_)
    refine lv_if_ne hx hb d_M_atom_15 (tgt := 28) rfl (fun hc => ?_) (fun hc => ?_)
    · have hf := (if_neg hc).symm.trans hf
      exact K28 x1 σ4 H locs ls hf hw (lv_sub hl [0, 1] rfl)
    · have hf := (if_pos hc).symm.trans hf
      refine lv_aload_n hx hb d_M_atom_18 rfl (lv_at hl 0 rfl) ?_
      refine zr_ldcw (own := "ScheduleCheckModel") (tx := "!") (q := ad 1331) hx hb hown ((G.2.2.2.2 rfl).2.2.1 31 (by decide)) d_M_atom_19 ?_
      obtain ⟨r8, σ7, hc9, hf⟩ := zq_cs hf
      refine zr_ci hw (zr_runV (rest := []) (ci := 8) (o := 1) G hw [.ref (ad 1331)] (zc_M_is hJ hc9) (cwV 1 hts (zs_gV zm_568 zm_569 zm_570 zm_551 zm_567) rfl rfl rfl (by decide +kernel) ⟨Nat.le_trans (show 4 + 1 ≤ fA + 10 by omega) hR1, Nat.le_trans (show 8 + (3 + 11) + (85) ≤ lA + 214 by omega) hR2⟩) rfl rfl rfl hl.1 (Nat.le_of_ble_eq_true rfl) d_M_atom_22 ⟨Nat.zero_le _, Nat.zero_le _⟩) (fun H locs hw => ?_)
      refine lv_if_eq hx hb d_M_atom_25 (tgt := 124) rfl (fun hc => ?_) (fun hc => ?_)
      · have hf := (if_pos hc).symm.trans hf
        refine lv_aload_n hx hb d_M_atom_124 rfl (lv_at hl 0 rfl) ?_
        refine zr_get (ci := 8) G hw 1 7 zi_8 rfl rfl rfl (by decide) zm_556 (fun _ h => h) (v := .int (zs_i σ7 1 7)) rfl d_M_atom_125 ?_
        refine lv_iconst (v := 2) hx hb d_M_atom_128 (by decide) ?_
        refine lv_icmp_eq hx hb d_M_atom_129 (tgt := 139) rfl (fun hc => ?_) (fun hc => ?_)
        · have hf := (if_pos hc).symm.trans hf
          exact K139 σ7 H locs ls hf hw (lv_sub hl [0] rfl)
        · have hf := (if_neg hc).symm.trans hf
          refine lv_aload_n hx hb d_M_atom_132 rfl (lv_at hl 0 rfl) ?_
          obtain ⟨r11, σ10, hc12, hf⟩ := zq_cs hf
          refine zr_ci hw (zr_runV (rest := []) (ci := 8) (o := 1) G hw [] (zc_M_isName hJ hc12) (cwV 0 hts (zs_gV zm_593 zm_594 zm_595 zm_551 zm_592) rfl rfl rfl (by decide +kernel) ⟨Nat.le_trans (show 5 + 1 ≤ fA + 10 by omega) hR1, Nat.le_trans (show 8 + (2 + 11) + (107) ≤ lA + 214 by omega) hR2⟩) rfl rfl rfl hl.1 (Nat.le_of_ble_eq_true rfl) d_M_atom_133 ⟨Nat.zero_le _, Nat.zero_le _⟩) (fun H locs hw => ?_)
          refine lv_if_eq hx hb d_M_atom_136 (tgt := 149) rfl (fun hc => ?_) (fun hc => ?_)
          · have hf := (if_pos hc).symm.trans hf
            exact K149 σ10 H locs ls hf hw (lv_sub hl [0] rfl)
          · have hf := (if_neg hc).symm.trans hf
            exact K139 σ10 H locs ls hf hw (lv_sub hl [0] rfl)
      · have hf := (if_neg hc).symm.trans hf
        exact K28 x1 σ7 H locs ls hf hw (lv_sub hl [0, 1] rfl)
def zf_M_atom (F : Nat) : Nat → Int32 → zs_S → Option (Int32 × zs_S)
  | 0, _, _ => none
  | n + 1, x1, σ => zf_M_atom_b (zf_M_atom F n) F x1 σ
theorem zc_M_atom {l : Launch} {D : va_G} {cA : Nat → ClassId} {ad : Nat → Nat} {A : Nat → Prop} {F : Nat} (hJ : zs_J ad) : ∀ (n : Nat) {x1 : Int32} {σ : zs_S} {q : Int32 × zs_S}, zf_M_atom F n x1 σ = some q → Met l y_M_atom (.code y_M_atom prog_13_method_26_code 4 (some .boolean) :: zd_ww) { frames := n * 10, cells := 0, slots := 0, locals := n * 214 } (va_Pc [.ref (ad 1), .int x1] (zs_U 1 D cA ad A σ)) (zs_Qi 1 D cA ad A q) 0 0 A := by
  intro n
  induction n with
  | zero => intro x1 σ q hf; exact nomatch (show (none : Option (Int32 × zs_S)) = some q from hf)
  | succ n ih =>
    intro x1 σ q hf
    have h := zc_M_atom_b  (kA := zf_M_atom F n) (fA := n * 10) (lA := n * 214) (fun h => ih h) hJ hf
    have e1 : (n + 1) * 10 = n * 10 + 10 := by omega
    have e2 : (n + 1) * 214 = n * 214 + 214 := by omega
    rw [e1, e2]
    exact h
/-! ScheduleCheckModel.whole -/
def y_M_whole : MethodName := ⟨"ScheduleCheckModel","whole","(I)Z"⟩
def zf_M_whole (F : Nat) (x1 : Int32) (σ : zs_S) : Option (Int32 × zs_S) :=
  zq_q (zs_r σ 1 12) fun q1 =>
  zq_g (zq_k 1 q1 19) <|
  zq_q (zd_rf 1 q1 9) fun q3 =>
  zq_q (zs_r σ 1 12) fun q4 =>
  zq_g (zq_k 1 q4 19) <|
  zq_g (zq_k 1 q3 0) <|
  zq_g (zq_b x1 (zd_sh 1 q3).2) <|
  zq_v (zs_wi σ q3 ((x1).toNatClampNeg) (zs_i σ q4 12)) fun σ8 =>
  zq_c (zf_M_either (zf_M_atom F 10) F 0 σ8) fun r10 σ9 =>
  if r10 = 0 then (
    some (0, σ9)
  ) else (
    zq_d (zf_M_put F 16 σ9) fun σ12 =>
    some (1, σ12)
  )
set_option maxHeartbeats 4000000 in
set_option maxRecDepth 100000 in
theorem zc_M_whole {l : Launch} {D : va_G} {cA : Nat → ClassId} {ad : Nat → Nat} {A : Nat → Prop} {F : Nat} {x1 : Int32} {σ : zs_S} {q : Int32 × zs_S} (hJ : zs_J ad) (hf : zf_M_whole F x1 σ = some q) : Met l y_M_whole (.code y_M_whole prog_13_method_20_code 2 (some .boolean) :: zd_ww) { frames := 110, cells := 0, slots := 0, locals := 2354 } (va_Pc [.ref (ad 1), .int x1] (zs_U 1 D cA ad A σ)) (zs_Qi 1 D cA ad A q) 0 0 A := by
  refine Met.ofW (cc := prog_13_method_20_code) (maxL := 2) (ret := (some .boolean)) (by decide) rfl ?_
  intro p e s m args below meth c s₁ B hml hv
  obtain ⟨hargs, hP, hK, hD, hZ⟩ := hv
  have G : zs_G 1 p s m args c prog_13_method_20_code 2 "ScheduleCheckModel" D cA ad A := ⟨⟨B.exec, B.bytes, hml, findClass_of_methodNamed B.named, fun w h => atoms_spec B.pre w (List.mem_cons_of_mem _ h)⟩, hK, hJ, hZ⟩
  have hw : zs_I 1 D cA ad A s σ s.heap [] := ⟨hP, hD, va_S.rf⟩
  have hx := G.1.1
  have hb := G.1.2.1
  have hown := G.1.2.2.2.1
  have hts := G.1.2.2.2.2
  have hr := B.returns
  have hlocks := B.notSynchronized
  have he : entryFrame m args 2 = F0 m 0 ((lg_sl [.ref (ad 1), .int x1] ++ List.replicate (2 - (lg_sl [.ref (ad 1), .int x1]).length) Slot.unset).toArray) [] := by rw [hargs]; exact lg_entry_eq m _ 2
  have hl := lv_entry [.ref (ad 1), .int x1] (n := 2) (Nat.le_of_ble_eq_true rfl)
  rw [he]
  generalize (lg_sl [.ref (ad 1), .int x1] ++ List.replicate (2 - (lg_sl [.ref (ad 1), .int x1]).length) Slot.unset).toArray = ls at hl
  have hl : lv_has ls 2 [(0, .ref (ad 1)), (1, .int x1)] := hl
  obtain ⟨RR, hR⟩ : ∃ z, z = (headSpec (.code y_M_whole prog_13_method_20_code 2 (some .boolean) :: zd_ww) { frames := 110, cells := 0, slots := 0, locals := 2354 }).room := ⟨_, rfl⟩
  rw [← hR]
  obtain ⟨QQ, hQ⟩ : ∃ z, z = MQ below (zs_Qi 1 D cA ad A q) args s 0 0 A := ⟨_, rfl⟩
  rw [← hQ]
  have hR1 : 110 ≤ RR.frames := by rw [hR]; exact Nat.le_refl _
  have hR2 : 2354 ≤ RR.locals := by rw [hR]; exact Nat.le_refl _
  generalize s.heap = H at hw ⊢
  generalize ([] : List Loc) = locs at hw ⊢
  unfold zf_M_whole at hf
  refine lv_aload_n hx hb d_M_whole_0 rfl (lv_at hl 0 rfl) ?_
  obtain ⟨q1, e_q1, h_q1, hf⟩ := zq_qs hf
  refine zr_get (ci := 8) G hw 1 12 zi_8 rfl rfl rfl (by decide) zm_583 (fun _ h => h) (v := .ref (ad q1)) (zs_fr rfl e_q1 h_q1) d_M_whole_1 ?_
  obtain ⟨hs2, hf⟩ := zq_gs hf
  have hs2 := zq_ks hs2
  obtain ⟨q3, e_q3, h_q3, hf⟩ := zq_qs hf
  refine zr_get (ci := 9) G hw q1 9 zi_9 hs2 rfl rfl (by decide) zm_663 (fun _ h => h) (v := .ref (ad q3)) (zs_fs rfl e_q3 h_q3) d_M_whole_4 ?_
  refine lv_iload_n hx hb d_M_whole_7 rfl (lv_at hl 1 rfl) ?_
  refine lv_aload_n hx hb d_M_whole_8 rfl (lv_at hl 0 rfl) ?_
  obtain ⟨q4, e_q4, h_q4, hf⟩ := zq_qs hf
  refine zr_get (ci := 8) G hw 1 12 zi_8 rfl rfl rfl (by decide) zm_583 (fun _ h => h) (v := .ref (ad q4)) (zs_fr rfl e_q4 h_q4) d_M_whole_9 ?_
  obtain ⟨hs5, hf⟩ := zq_gs hf
  have hs5 := zq_ks hs5
  refine zr_get (ci := 9) G hw q4 12 zi_9 hs5 rfl rfl (by decide) zm_585 (fun _ h => h) (v := .int (zs_i σ q4 12)) rfl d_M_whole_12 ?_
  obtain ⟨hs6, hf⟩ := zq_gs hf
  have hs6 := zq_ks hs6
  obtain ⟨hi7, hf⟩ := zq_gs hf
  obtain ⟨σ8, e_σ8, hf⟩ := zq_ss hf
  refine zr_iast G hw q3 hs6 rfl hi7 d_M_whole_15 (fun H locs hw => ?_)
  rw [← e_σ8] at hw
  refine lv_aload_n hx hb d_M_whole_16 rfl (lv_at hl 0 rfl) ?_
  refine lv_iconst (v := 0) hx hb d_M_whole_17 (by decide) ?_
  obtain ⟨r10, σ9, hc11, hf⟩ := zq_cs hf
  refine zr_ci hw (zr_runV (rest := []) (ci := 8) (o := 1) G hw [.int 0] (zc_M_either (kA := zf_M_atom F 10) (fA := 10 * 10) (lA := 10 * 214) (fun h => zc_M_atom hJ 10 h) hJ hc11) (cwV 1 hts (zs_gV zm_703 zm_704 zm_705 zm_551 zm_702) rfl rfl rfl (by decide +kernel) ⟨Nat.le_trans (by decide) hR1, Nat.le_trans (by decide) hR2⟩) rfl rfl rfl hl.1 (Nat.le_of_ble_eq_true rfl) d_M_whole_18 ⟨Nat.zero_le _, Nat.zero_le _⟩) (fun H locs hw => ?_)
  refine lv_if_ne hx hb d_M_whole_21 (tgt := 26) rfl (fun hc => ?_) (fun hc => ?_)
  · have hf := (if_neg hc).symm.trans hf
    refine lv_aload_n hx hb d_M_whole_26 rfl (lv_at hl 0 rfl) ?_
    refine lv_bipush (v := 16) hx hb d_M_whole_27 (by decide) ?_
    obtain ⟨σ12, hc14, hf⟩ := zq_ds hf
    refine zr_cv hw (zr_runV (rest := []) (ci := 8) (o := 1) G hw [.int 16] (zc_M_put hJ hc14) (cwV 1 hts (zs_gV zm_681 zm_682 zm_683 zm_551 zm_680) rfl rfl rfl (by decide +kernel) ⟨Nat.le_trans (by decide) hR1, Nat.le_trans (by decide) hR2⟩) rfl rfl rfl hl.1 (Nat.le_of_ble_eq_true rfl) d_M_whole_29 ⟨Nat.zero_le _, Nat.zero_le _⟩) (fun H locs hw => ?_)
    refine lv_iconst (v := 1) hx hb d_M_whole_32 (by decide) ?_
    exact zr_zret G hw hr hlocks (by decide) hf hQ d_M_whole_33
  · have hf := (if_pos hc).symm.trans hf
    refine lv_iconst (v := 0) hx hb d_M_whole_24 (by decide) ?_
    exact zr_zret G hw hr hlocks (by decide) hf hQ d_M_whole_25
