def y_M_statements : MethodName := ⟨"ScheduleCheckModel","statements","(II)Z"⟩
/-! ScheduleCheckModel.block -/
def y_M_block : MethodName := ⟨"ScheduleCheckModel","block","(I)Z"⟩
def zf_M_block_15 (kS : Int32 → Int32 → zs_S → Option (Int32 × zs_S)) (F : Nat)   (σ : zs_S) : Option (Int32 × zs_S) :=
  zq_c (zf_M_bad F σ) fun r12 σ11 =>
  zq_g (zq_z r12) <|
  some (r12, σ11)
def zf_M_block (kS : Int32 → Int32 → zs_S → Option (Int32 × zs_S)) (F : Nat) (x1 : Int32) (σ : zs_S) : Option (Int32 × zs_S) :=
  zq_c (zf_M_is F 1317 σ) fun r2 σ1 =>
  if r2 = 0 then (
    zf_M_block_15 kS F σ1
  ) else (
    if x1 = 6 then (
      zf_M_block_15 kS F σ1
    ) else (
      zq_v ((zs_i σ1 1 16) - 1) fun v4 =>
      zq_d (zf_M_step F σ1) fun σ5 =>
      zq_c (kS v4 (x1 + 1) σ5) fun r9 σ8 =>
      zq_g (zq_z r9) <|
      some (r9, σ8)
    )
  )
set_option maxHeartbeats 4000000 in
set_option maxRecDepth 100000 in
theorem zc_M_block {l : Launch} {D : va_G} {cA : Nat → ClassId} {ad : Nat → Nat} {A : Nat → Prop} {F : Nat} {x1 : Int32} {σ : zs_S} {q : Int32 × zs_S} {kS : Int32 → Int32 → zs_S → Option (Int32 × zs_S)} {fS lS : Nat} (hS : ∀ {x1 : Int32} {x2 : Int32} {σ : zs_S} {q : Int32 × zs_S}, kS x1 x2 σ = some q → Met l y_M_statements (.code y_M_statements prog_13_method_16_code 5 (some .boolean) :: zd_ww) { frames := fS, cells := 0, slots := 0, locals := lS } (va_Pc [.ref (ad 1), .int x1, .int x2] (zs_U 1 D cA ad A σ)) (zs_Qi 1 D cA ad A q) 0 0 A) (hJ : zs_J ad) (hf : zf_M_block kS F x1 σ = some q) : Met l y_M_block (.code y_M_block prog_13_method_17_code 3 (some .boolean) :: zd_ww) { frames := fS + 5, cells := 0, slots := 0, locals := lS + 107 } (va_Pc [.ref (ad 1), .int x1] (zs_U 1 D cA ad A σ)) (zs_Qi 1 D cA ad A q) 0 0 A := by
  refine Met.ofW (cc := prog_13_method_17_code) (maxL := 3) (ret := (some .boolean)) (by decide) rfl ?_
  intro p e s m args below meth c s₁ B hml hv
  obtain ⟨hargs, hP, hK, hD, hZ⟩ := hv
  have G : zs_G 1 p s m args c prog_13_method_17_code 3 "ScheduleCheckModel" D cA ad A := ⟨⟨B.exec, B.bytes, hml, findClass_of_methodNamed B.named, fun w h => atoms_spec B.pre w (List.mem_cons_of_mem _ h)⟩, hK, hJ, hZ⟩
  have hw : zs_I 1 D cA ad A s σ s.heap [] := ⟨hP, hD, va_S.rf⟩
  have hx := G.1.1
  have hb := G.1.2.1
  have hown := G.1.2.2.2.1
  have hts := G.1.2.2.2.2
  have hr := B.returns
  have hlocks := B.notSynchronized
  have he : entryFrame m args 3 = F0 m 0 ((lg_sl [.ref (ad 1), .int x1] ++ List.replicate (3 - (lg_sl [.ref (ad 1), .int x1]).length) Slot.unset).toArray) [] := by rw [hargs]; exact lg_entry_eq m _ 3
  have hl := lv_entry [.ref (ad 1), .int x1] (n := 3) (Nat.le_of_ble_eq_true rfl)
  rw [he]
  generalize (lg_sl [.ref (ad 1), .int x1] ++ List.replicate (3 - (lg_sl [.ref (ad 1), .int x1]).length) Slot.unset).toArray = ls at hl
  have hl : lv_has ls 3 [(0, .ref (ad 1)), (1, .int x1)] := hl
  obtain ⟨RR, hR⟩ : ∃ z, z = (headSpec (.code y_M_block prog_13_method_17_code 3 (some .boolean) :: zd_ww) { frames := fS + 5, cells := 0, slots := 0, locals := lS + 107 }).room := ⟨_, rfl⟩
  rw [← hR]
  obtain ⟨QQ, hQ⟩ : ∃ z, z = MQ below (zs_Qi 1 D cA ad A q) args s 0 0 A := ⟨_, rfl⟩
  rw [← hQ]
  have hR1 : fS + 5 ≤ RR.frames := by rw [hR]; exact Nat.le_refl _
  have hR2 : lS + 107 ≤ RR.locals := by rw [hR]; exact Nat.le_refl _
  generalize s.heap = H at hw ⊢
  generalize ([] : List Loc) = locs at hw ⊢
  have K15 : ∀ (σ : zs_S) (H : Heap) (locs : List Loc) (ls : Array Slot), zf_M_block_15 kS F σ = some q → zs_I 1 D cA ad A s σ H locs → lv_has ls 3 [(0, .ref (ad 1))] → W p l e RR s m args below meth c H locs 0 0 QQ (F0 m 15 ls []) := by
    intro   σ H locs ls hf hw hl
    unfold zf_M_block_15 at hf
    refine lv_aload_n hx hb d_M_block_15 rfl (lv_at hl 0 rfl) ?_
    obtain ⟨r12, σ11, hc13, hf⟩ := zq_cs hf
    refine zr_ci hw (zr_runV (rest := []) (ci := 8) (o := 1) G hw [] (zc_M_bad hJ hc13) (cwV 0 hts (zs_gV zm_576 zm_577 zm_578 zm_551 zm_575) rfl rfl rfl (by decide +kernel) ⟨Nat.le_trans (show 0 + 1 ≤ fS + 5 by omega) hR1, Nat.le_trans (show 8 + (1 + 11) + (0) ≤ lS + 107 by omega) hR2⟩) rfl rfl rfl hl.1 (Nat.le_of_ble_eq_true rfl) d_M_block_16 ⟨Nat.zero_le _, Nat.zero_le _⟩) (fun H locs hw => ?_)
    obtain ⟨hz, hf⟩ := zq_gs hf
    exact zr_zret G hw hr hlocks hz hf hQ d_M_block_19
  unfold zf_M_block at hf
  refine lv_aload_n hx hb d_M_block_0 rfl (lv_at hl 0 rfl) ?_
  refine va_ldcS (own := "ScheduleCheckModel") (tx := "{") (q := ad 1317) hx hb hown ((G.2.2.2.2 rfl).2.2.1 17 (by decide)) d_M_block_1 ?_
  obtain ⟨r2, σ1, hc3, hf⟩ := zq_cs hf
  refine zr_ci hw (zr_runV (rest := []) (ci := 8) (o := 1) G hw [.ref (ad 1317)] (zc_M_is hJ hc3) (cwV 1 hts (zs_gV zm_568 zm_569 zm_570 zm_551 zm_567) rfl rfl rfl (by decide +kernel) ⟨Nat.le_trans (show 4 + 1 ≤ fS + 5 by omega) hR1, Nat.le_trans (show 8 + (3 + 11) + (85) ≤ lS + 107 by omega) hR2⟩) rfl rfl rfl hl.1 (Nat.le_of_ble_eq_true rfl) d_M_block_3 ⟨Nat.zero_le _, Nat.zero_le _⟩) (fun H locs hw => ?_)
  refine lv_if_eq hx hb d_M_block_6 (tgt := 15) rfl (fun hc => ?_) (fun hc => ?_)
  · have hf := (if_pos hc).symm.trans hf
    exact K15 σ1 H locs ls hf hw (lv_sub hl [0] rfl)
  · have hf := (if_neg hc).symm.trans hf
    refine lv_iload_n hx hb d_M_block_9 rfl (lv_at hl 1 rfl) ?_
    refine lv_bipush (v := 6) hx hb d_M_block_10 (by decide) ?_
    refine lv_icmp_ne hx hb d_M_block_12 (tgt := 20) rfl (fun hc => ?_) (fun hc => ?_)
    · have hf := (if_neg hc).symm.trans hf
      refine lv_aload_n hx hb d_M_block_20 rfl (lv_at hl 0 rfl) ?_
      refine zr_get (ci := 8) G hw 1 16 zi_8 rfl rfl rfl (by decide) zm_586 (fun _ h => h) (v := .int (zs_i σ1 1 16)) rfl d_M_block_21 ?_
      refine lv_iconst (v := 1) hx hb d_M_block_24 (by decide) ?_
      refine lv_isub hx hb d_M_block_25 ?_
      refine lv_topi (fun v4 e_v4 => ?_)
      have hf := zq_vs e_v4 hf
      refine lv_istore_n hx hb d_M_block_26 rfl hl (by decide) rfl (fun ls hl => ?_)
      have hl : lv_has ls 3 [(2, .int v4), (0, .ref (ad 1)), (1, .int x1)] := hl
      refine lv_aload_n hx hb d_M_block_27 rfl (lv_at hl 1 rfl) ?_
      obtain ⟨σ5, hc7, hf⟩ := zq_ds hf
      refine zr_cv hw (zr_runV (rest := []) (ci := 8) (o := 1) G hw [] (zc_M_step hJ hc7) (cwV 0 hts (zs_gV zm_572 zm_573 zm_574 zm_551 zm_571) rfl rfl rfl (by decide +kernel) ⟨Nat.le_trans (show 1 + 1 ≤ fS + 5 by omega) hR1, Nat.le_trans (show 8 + (5 + 11) + (60) ≤ lS + 107 by omega) hR2⟩) rfl rfl rfl hl.1 (Nat.le_of_ble_eq_true rfl) d_M_block_28 ⟨Nat.zero_le _, Nat.zero_le _⟩) (fun H locs hw => ?_)
      refine lv_aload_n hx hb d_M_block_31 rfl (lv_at hl 1 rfl) ?_
      refine lv_iload_n hx hb d_M_block_32 rfl (lv_at hl 0 rfl) ?_
      refine lv_iload_n hx hb d_M_block_33 rfl (lv_at hl 2 rfl) ?_
      refine lv_iconst (v := 1) hx hb d_M_block_34 (by decide) ?_
      refine lv_iadd hx hb d_M_block_35 ?_
      obtain ⟨r9, σ8, hc10, hf⟩ := zq_cs hf
      refine zr_ci hw (zr_runV (rest := []) (ci := 8) (o := 1) G hw [.int v4, .int (x1 + 1)] (hS hc10) (cwV 2 hts (zs_gV zm_707 zm_708 zm_709 zm_551 zm_706) rfl rfl rfl (by decide +kernel) ⟨Nat.le_trans (show fS + 1 ≤ fS + 5 by omega) hR1, Nat.le_trans (show 8 + (5 + 11) + (lS) ≤ lS + 107 by omega) hR2⟩) rfl rfl rfl hl.1 (Nat.le_of_ble_eq_true rfl) d_M_block_36 ⟨Nat.zero_le _, Nat.zero_le _⟩) (fun H locs hw => ?_)
      obtain ⟨hz, hf⟩ := zq_gs hf
      exact zr_zret G hw hr hlocks hz hf hQ d_M_block_39
    · have hf := (if_pos hc).symm.trans hf
      exact K15 σ1 H locs ls hf hw (lv_sub hl [0] rfl)
/-! ScheduleCheckModel.statement -/
def y_M_statement : MethodName := ⟨"ScheduleCheckModel","statement","(II)Z"⟩
def zf_M_statement_602 (kS : Int32 → Int32 → zs_S → Option (Int32 × zs_S)) (F : Nat)  (x1 : Int32) (t0 : Int32) (σ : zs_S) : Option (Int32 × zs_S) :=
  if 0 ≤ t0 then (
    zq_q (zs_r σ 1 12) fun q188 =>
    zq_g (zq_k 1 q188 19) <|
    zq_q (zd_rf 1 q188 8) fun q190 =>
    zq_g (zq_k 1 q190 0) <|
    zq_g (zq_b x1 (zd_sh 1 q190).2) <|
    zq_v (zs_wi σ q190 ((x1).toNatClampNeg) t0) fun σ193 =>
    zq_d (zf_M_step F σ193) fun σ194 =>
    zq_c (zf_M_take F 1316 σ194) fun r198 σ197 =>
    zq_g (zq_z r198) <|
    some (r198, σ197)
  ) else (
    zq_c (zf_M_bad F σ) fun r201 σ200 =>
    zq_g (zq_z r201) <|
    some (r201, σ200)
  )
def zf_M_statement_601 (kS : Int32 → Int32 → zs_S → Option (Int32 × zs_S)) (F : Nat)  (x1 : Int32) (σ : zs_S) : Option (Int32 × zs_S) :=
  zf_M_statement_602 kS F x1 ((-1)) σ
def zf_M_statement_537 (kS : Int32 → Int32 → zs_S → Option (Int32 × zs_S)) (F : Nat)  (x1 : Int32) (σ : zs_S) : Option (Int32 × zs_S) :=
  zq_c (zf_M_isName F σ) fun r157 σ156 =>
  if r157 = 0 then (
    zf_M_statement_601 kS F x1 σ156
  ) else (
    zq_q (zs_r σ156 1 13) fun q159 =>
    zq_g (zq_k 1 q159 20) <|
    zq_c (zf_MN_find F q159 2 (zs_i σ156 1 8) ((zs_i σ156 1 9) - (zs_i σ156 1 8)) σ156) fun r161 σ160 =>
    if 0 ≤ r161 then (
      zf_M_statement_601 kS F x1 σ160
    ) else (
      zq_q (zs_r σ160 1 12) fun q164 =>
      zq_g (zq_k 1 q164 19) <|
      zq_q (zd_rf 1 q164 1) fun q166 =>
      zq_g (zq_k 1 q166 20) <|
      zq_c (zf_MN_find F q166 2 (zs_i σ160 1 8) ((zs_i σ160 1 9) - (zs_i σ160 1 8)) σ160) fun r168 σ167 =>
      zf_M_statement_602 kS F x1 r168 σ167
    )
  )
def zf_M_statement_496 (kS : Int32 → Int32 → zs_S → Option (Int32 × zs_S)) (F : Nat)  (x1 : Int32) (t0 : Int32) (t1 : Int32) (t2 : Nat) (σ : zs_S) : Option (Int32 × zs_S) :=
  zq_g (zq_k 1 t2 0) <|
  zq_g (zq_b t1 (zd_sh 1 t2).2) <|
  zq_v (zs_wi σ t2 ((t1).toNatClampNeg) t0) fun σ90 =>
  zq_d (zf_M_step F σ90) fun σ91 =>
  zq_q (zs_r σ91 1 12) fun q94 =>
  zq_g (zq_k 1 q94 19) <|
  zq_q (zd_rf 1 q94 7) fun q96 =>
  zq_g (zq_k 1 q96 0) <|
  zq_g (zq_b x1 (zd_sh 1 q96).2) <|
  if (zs_i σ91 q96 (x1).toNatClampNeg) = 4 then (
    zq_c (zf_M_is F 1308 σ91) fun r100 σ99 =>
    if r100 = 0 then (
      zf_M_statement_537 kS F x1 σ99
    ) else (
      zq_q (zs_r σ99 1 12) fun q102 =>
      zq_g (zq_k 1 q102 19) <|
      zq_q (zd_rf 1 q102 7) fun q104 =>
      zq_g (zq_k 1 q104 0) <|
      zq_g (zq_b x1 (zd_sh 1 q104).2) <|
      zq_v (zs_wi σ99 q104 ((x1).toNatClampNeg) 5) fun σ107 =>
      zq_d (zf_M_step F σ107) fun σ108 =>
      zf_M_statement_537 kS F x1 σ108
    )
  ) else (
    zf_M_statement_537 kS F x1 σ91
  )
def zf_M_statement_447 (kS : Int32 → Int32 → zs_S → Option (Int32 × zs_S)) (F : Nat)  (t0 : Int32) (σ : zs_S) : Option (Int32 × zs_S) :=
  zq_g (zq_z t0) <|
  some (t0, σ)
def zf_M_statement_446 (kS : Int32 → Int32 → zs_S → Option (Int32 × zs_S)) (F : Nat)   (σ : zs_S) : Option (Int32 × zs_S) :=
  zf_M_statement_447 kS F 0 σ
def zf_M_statement_411 (kS : Int32 → Int32 → zs_S → Option (Int32 × zs_S)) (F : Nat)  (x1 : Int32) (t0 : Int32) (t1 : Int32) (t2 : Nat) (σ : zs_S) : Option (Int32 × zs_S) :=
  zq_g (zq_k 1 t2 0) <|
  zq_g (zq_b t1 (zd_sh 1 t2).2) <|
  zq_v (zs_wi σ t2 ((t1).toNatClampNeg) t0) fun σ143 =>
  zq_d (zf_M_step F σ143) fun σ144 =>
  zq_c (zf_M_take F 1314 σ144) fun r148 σ147 =>
  if r148 = 0 then (
    zf_M_statement_446 kS F σ147
  ) else (
    zq_c (zf_M_whole F x1 σ147) fun r151 σ150 =>
    if r151 = 0 then (
      zf_M_statement_446 kS F σ150
    ) else (
      zq_c (zf_M_take F 1316 σ150) fun r154 σ153 =>
      if r154 = 0 then (
        zf_M_statement_446 kS F σ153
      ) else (
        zf_M_statement_447 kS F 1 σ153
      )
    )
  )
def zf_M_statement_380 (kS : Int32 → Int32 → zs_S → Option (Int32 × zs_S)) (F : Nat)  (x1 : Int32) (x3 : Int32) (x4 : Int32) (σ : zs_S) : Option (Int32 × zs_S) :=
  zq_q (zs_r σ 1 12) fun q79 =>
  zq_g (zq_k 1 q79 19) <|
  zq_q (zd_rf 1 q79 7) fun q81 =>
  zq_g (zq_k 1 q81 0) <|
  zq_g (zq_b x1 (zd_sh 1 q81).2) <|
  zq_v (zs_wi σ q81 ((x1).toNatClampNeg) 0) fun σ84 =>
  zq_q (zs_r σ84 1 12) fun q85 =>
  zq_g (zq_k 1 q85 19) <|
  zq_q (zd_rf 1 q85 8) fun q87 =>
  if x3 < 0 then (
    zf_M_statement_411 kS F x1 x4 x1 q87 σ84
  ) else (
    zf_M_statement_411 kS F x1 (8 + x3) x1 q87 σ84
  )
def zf_M_statement_304 (kS : Int32 → Int32 → zs_S → Option (Int32 × zs_S)) (F : Nat)  (t0 : Int32) (σ : zs_S) : Option (Int32 × zs_S) :=
  zq_g (zq_z t0) <|
  some (t0, σ)
def zf_M_statement_303 (kS : Int32 → Int32 → zs_S → Option (Int32 × zs_S)) (F : Nat)   (σ : zs_S) : Option (Int32 × zs_S) :=
  zf_M_statement_304 kS F 0 σ
def zf_M_statement_185 (kS : Int32 → Int32 → zs_S → Option (Int32 × zs_S)) (F : Nat)  (x1 : Int32) (σ : zs_S) : Option (Int32 × zs_S) :=
  zq_v (zs_wi σ 1 16 ((zs_i σ 1 16) + 1)) fun σ203 =>
  zq_g (zq_b (zs_i σ 1 16) 200) <|
  zq_v (zs_wi σ203 57 ((zs_i σ 1 16).toNatClampNeg) ((3 * x1) + 2)) fun σ205 =>
  some (1, σ205)
def zf_M_statement_131 (kS : Int32 → Int32 → zs_S → Option (Int32 × zs_S)) (F : Nat)  (x1 : Int32) (x2 : Int32) (σ : zs_S) : Option (Int32 × zs_S) :=
  zq_q (zs_r σ 1 12) fun q171 =>
  zq_g (zq_k 1 q171 19) <|
  zq_q (zd_rf 1 q171 7) fun q173 =>
  zq_g (zq_k 1 q173 0) <|
  zq_g (zq_b x1 (zd_sh 1 q173).2) <|
  if (zs_i σ q173 (x1).toNatClampNeg) = 7 then (
    zq_c (zf_M_is F 1311 σ) fun r177 σ176 =>
    if r177 = 0 then (
      zf_M_statement_185 kS F x1 σ176
    ) else (
      zq_d (zf_M_step F σ176) fun σ179 =>
      zq_v (zs_wi σ179 1 16 ((zs_i σ179 1 16) + 1)) fun σ182 =>
      zq_g (zq_b (zs_i σ179 1 16) 200) <|
      zq_v (zs_wi σ182 57 ((zs_i σ179 1 16).toNatClampNeg) ((3 * x1) + 2)) fun σ184 =>
      zq_c (zf_M_block kS F x2 σ184) fun r186 σ185 =>
      zq_g (zq_z r186) <|
      some (r186, σ185)
    )
  ) else (
    zf_M_statement_185 kS F x1 σ
  )
def zf_M_statement_73 (kS : Int32 → Int32 → zs_S → Option (Int32 × zs_S)) (F : Nat)   (σ : zs_S) : Option (Int32 × zs_S) :=
  some (0, σ)
def zf_M_statement_42 (kS : Int32 → Int32 → zs_S → Option (Int32 × zs_S)) (F : Nat)  (x1 : Int32) (x2 : Int32) (t0 : Int32) (t1 : Int32) (t2 : Nat) (σ : zs_S) : Option (Int32 × zs_S) :=
  zq_g (zq_k 1 t2 0) <|
  zq_g (zq_b t1 (zd_sh 1 t2).2) <|
  zq_v (zs_wi σ t2 ((t1).toNatClampNeg) t0) fun σ113 =>
  zq_d (zf_M_step F σ113) fun σ114 =>
  zq_c (zf_M_take F 1319 σ114) fun r118 σ117 =>
  if r118 = 0 then (
    zf_M_statement_73 kS F σ117
  ) else (
    zq_c (zf_M_whole F x1 σ117) fun r121 σ120 =>
    if r121 = 0 then (
      zf_M_statement_73 kS F σ120
    ) else (
      zq_c (zf_M_take F 1320 σ120) fun r124 σ123 =>
      if r124 = 0 then (
        zf_M_statement_73 kS F σ123
      ) else (
        zq_v (zs_i σ123 1 16) fun v126 =>
        zq_v (zs_wi σ123 1 16 ((zs_i σ123 1 16) + 1)) fun σ127 =>
        zq_g (zq_b (zs_i σ123 1 16) 200) <|
        zq_v (zs_wi σ127 57 ((zs_i σ123 1 16).toNatClampNeg) ((3 * x1) + 1)) fun σ129 =>
        zq_c (zf_M_block kS F x2 σ129) fun r131 σ130 =>
        if r131 = 0 then (
          some (0, σ130)
        ) else (
          zq_q (zs_r σ130 1 12) fun q133 =>
          zq_g (zq_k 1 q133 19) <|
          zq_q (zd_rf 1 q133 7) fun q135 =>
          zq_g (zq_k 1 q135 0) <|
          zq_g (zq_b x1 (zd_sh 1 q135).2) <|
          if (zs_i σ130 q135 (x1).toNatClampNeg) = 8 then (
            zq_d (zf_M_lead F v126 x1 σ130) fun σ138 =>
            zf_M_statement_131 kS F x1 x2 σ138
          ) else (
            zf_M_statement_131 kS F x1 x2 σ130
          )
        )
      )
    )
  )
def zf_M_statement_18 (kS : Int32 → Int32 → zs_S → Option (Int32 × zs_S)) (F : Nat)  (x1 : Int32) (x2 : Int32) (σ : zs_S) : Option (Int32 × zs_S) :=
  zq_q (zs_r σ 1 12) fun q73 =>
  zq_g (zq_k 1 q73 19) <|
  zq_q (zd_rf 1 q73 7) fun q75 =>
  zq_c (zf_M_is F 1310 σ) fun r77 σ76 =>
  if r77 = 0 then (
    zf_M_statement_42 kS F x1 x2 8 x1 q75 σ76
  ) else (
    zf_M_statement_42 kS F x1 x2 7 x1 q75 σ76
  )
def zf_M_statement (kS : Int32 → Int32 → zs_S → Option (Int32 × zs_S)) (F : Nat) (x1 : Int32) (x2 : Int32) (σ : zs_S) : Option (Int32 × zs_S) :=
  zq_c (zf_M_is F 1310 σ) fun r2 σ1 =>
  if r2 = 0 then (
    zq_c (zf_M_is F 1312 σ1) fun r5 σ4 =>
    if r5 = 0 then (
      zq_c (zf_M_is F 1313 σ4) fun r8 σ7 =>
      if r8 = 0 then (
        zq_v (zs_wi σ7 1 16 ((zs_i σ7 1 16) + 1)) fun σ10 =>
        zq_g (zq_b (zs_i σ7 1 16) 200) <|
        zq_v (zs_wi σ10 57 ((zs_i σ7 1 16).toNatClampNeg) (3 * x1)) fun σ12 =>
        zq_c (zf_M_is F 1309 σ12) fun r14 σ13 =>
        if r14 = 0 then (
          zq_c (zf_M_isName F σ13) fun r17 σ16 =>
          if r17 = 0 then (
            zq_q (zs_r σ16 1 12) fun q19 =>
            zq_g (zq_k 1 q19 19) <|
            zq_q (zd_rf 1 q19 7) fun q21 =>
            zq_c (zf_M_is F 1304 σ16) fun r23 σ22 =>
            if r23 = 0 then (
              zq_c (zf_M_is F 1305 σ22) fun r26 σ25 =>
              if r26 = 0 then (
                zq_c (zf_M_is F 1306 σ25) fun r29 σ28 =>
                if r29 = 0 then (
                  zf_M_statement_496 kS F x1 4 x1 q21 σ28
                ) else (
                  zf_M_statement_496 kS F x1 3 x1 q21 σ28
                )
              ) else (
                zf_M_statement_496 kS F x1 2 x1 q21 σ25
              )
            ) else (
              zf_M_statement_496 kS F x1 1 x1 q21 σ22
            )
          ) else (
            zq_q (zs_r σ16 1 13) fun q31 =>
            zq_g (zq_k 1 q31 20) <|
            zq_c (zf_MN_find F q31 2 (zs_i σ16 1 8) ((zs_i σ16 1 9) - (zs_i σ16 1 8)) σ16) fun r33 σ32 =>
            zq_q (zs_r σ32 1 12) fun q36 =>
            zq_g (zq_k 1 q36 19) <|
            zq_q (zd_rf 1 q36 0) fun q38 =>
            zq_g (zq_k 1 q38 20) <|
            zq_c (zf_MN_find F q38 2 (zs_i σ32 1 8) ((zs_i σ32 1 9) - (zs_i σ32 1 8)) σ32) fun r40 σ39 =>
            if 0 ≤ r33 then (
              zf_M_statement_380 kS F x1 r33 r40 σ39
            ) else (
              if 0 ≤ r40 then (
                zf_M_statement_380 kS F x1 r33 r40 σ39
              ) else (
                zq_c (zf_M_bad F σ39) fun r44 σ43 =>
                zq_g (zq_z r44) <|
                some (r44, σ43)
              )
            )
          )
        ) else (
          zq_q (zs_r σ13 1 12) fun q46 =>
          zq_g (zq_k 1 q46 19) <|
          zq_q (zd_rf 1 q46 7) fun q48 =>
          zq_g (zq_k 1 q48 0) <|
          zq_g (zq_b x1 (zd_sh 1 q48).2) <|
          zq_v (zs_wi σ13 q48 ((x1).toNatClampNeg) 6) fun σ51 =>
          zq_d (zf_M_step F σ51) fun σ52 =>
          zq_c (zf_M_whole F x1 σ52) fun r56 σ55 =>
          if r56 = 0 then (
            zf_M_statement_303 kS F σ55
          ) else (
            zq_c (zf_M_take F 1316 σ55) fun r59 σ58 =>
            if r59 = 0 then (
              zf_M_statement_303 kS F σ58
            ) else (
              zf_M_statement_304 kS F 1 σ58
            )
          )
        )
      ) else (
        zq_q (zs_r σ7 1 12) fun q61 =>
        zq_g (zq_k 1 q61 19) <|
        zq_q (zd_rf 1 q61 7) fun q63 =>
        zq_g (zq_k 1 q63 0) <|
        zq_g (zq_b x1 (zd_sh 1 q63).2) <|
        zq_v (zs_wi σ7 q63 ((x1).toNatClampNeg) 9) fun σ66 =>
        zq_d (zf_M_step F σ66) fun σ67 =>
        zq_c (zf_M_take F 1316 σ67) fun r71 σ70 =>
        zq_g (zq_z r71) <|
        some (r71, σ70)
      )
    ) else (
      zf_M_statement_18 kS F x1 x2 σ4
    )
  ) else (
    zf_M_statement_18 kS F x1 x2 σ1
  )
set_option maxHeartbeats 4000000 in
set_option maxRecDepth 100000 in
theorem zc_M_statement {l : Launch} {D : va_G} {cA : Nat → ClassId} {ad : Nat → Nat} {A : Nat → Prop} {F : Nat} {x1 : Int32} {x2 : Int32} {σ : zs_S} {q : Int32 × zs_S} {kS : Int32 → Int32 → zs_S → Option (Int32 × zs_S)} {fS lS : Nat} (hS : ∀ {x1 : Int32} {x2 : Int32} {σ : zs_S} {q : Int32 × zs_S}, kS x1 x2 σ = some q → Met l y_M_statements (.code y_M_statements prog_13_method_16_code 5 (some .boolean) :: zd_ww) { frames := fS, cells := 0, slots := 0, locals := lS } (va_Pc [.ref (ad 1), .int x1, .int x2] (zs_U 1 D cA ad A σ)) (zs_Qi 1 D cA ad A q) 0 0 A) (hJ : zs_J ad) (hf : zf_M_statement kS F x1 x2 σ = some q) : Met l y_M_statement (.code y_M_statement prog_13_method_18_code 5 (some .boolean) :: zd_ww) { frames := fS + 111, cells := 0, slots := 0, locals := lS + 2375 } (va_Pc [.ref (ad 1), .int x1, .int x2] (zs_U 1 D cA ad A σ)) (zs_Qi 1 D cA ad A q) 0 0 A := by
  refine Met.ofW (cc := prog_13_method_18_code) (maxL := 5) (ret := (some .boolean)) (by decide) rfl ?_
  intro p e s m args below meth c s₁ B hml hv
  obtain ⟨hargs, hP, hK, hD, hZ⟩ := hv
  have G : zs_G 1 p s m args c prog_13_method_18_code 5 "ScheduleCheckModel" D cA ad A := ⟨⟨B.exec, B.bytes, hml, findClass_of_methodNamed B.named, fun w h => atoms_spec B.pre w (List.mem_cons_of_mem _ h)⟩, hK, hJ, hZ⟩
  have hw : zs_I 1 D cA ad A s σ s.heap [] := ⟨hP, hD, va_S.rf⟩
  have hx := G.1.1
  have hb := G.1.2.1
  have hown := G.1.2.2.2.1
  have hts := G.1.2.2.2.2
  have hr := B.returns
  have hlocks := B.notSynchronized
  have he : entryFrame m args 5 = F0 m 0 ((lg_sl [.ref (ad 1), .int x1, .int x2] ++ List.replicate (5 - (lg_sl [.ref (ad 1), .int x1, .int x2]).length) Slot.unset).toArray) [] := by rw [hargs]; exact lg_entry_eq m _ 5
  have hl := lv_entry [.ref (ad 1), .int x1, .int x2] (n := 5) (Nat.le_of_ble_eq_true rfl)
  rw [he]
  generalize (lg_sl [.ref (ad 1), .int x1, .int x2] ++ List.replicate (5 - (lg_sl [.ref (ad 1), .int x1, .int x2]).length) Slot.unset).toArray = ls at hl
  have hl : lv_has ls 5 [(0, .ref (ad 1)), (1, .int x1), (2, .int x2)] := hl
  obtain ⟨RR, hR⟩ : ∃ z, z = (headSpec (.code y_M_statement prog_13_method_18_code 5 (some .boolean) :: zd_ww) { frames := fS + 111, cells := 0, slots := 0, locals := lS + 2375 }).room := ⟨_, rfl⟩
  rw [← hR]
  obtain ⟨QQ, hQ⟩ : ∃ z, z = MQ below (zs_Qi 1 D cA ad A q) args s 0 0 A := ⟨_, rfl⟩
  rw [← hQ]
  have hR1 : fS + 111 ≤ RR.frames := by rw [hR]; exact Nat.le_refl _
  have hR2 : lS + 2375 ≤ RR.locals := by rw [hR]; exact Nat.le_refl _
  generalize s.heap = H at hw ⊢
  generalize ([] : List Loc) = locs at hw ⊢
  have K602 : ∀ (x1 : Int32) (t0 : Int32) (σ : zs_S) (H : Heap) (locs : List Loc) (ls : Array Slot), zf_M_statement_602 kS F x1 t0 σ = some q → zs_I 1 D cA ad A s σ H locs → lv_has ls 5 [(0, .ref (ad 1)), (1, .int x1)] → W p l e RR s m args below meth c H locs 0 0 QQ (F0 m 602 ls [.int t0]) := by
    intro  x1 t0 σ H locs ls hf hw hl
    unfold zf_M_statement_602 at hf
    refine lv_istore_n hx hb d_M_statement_602 rfl hl (by decide) rfl (fun ls hl => ?_)
    have hl : lv_has ls 5 [(3, .int t0), (0, .ref (ad 1)), (1, .int x1)] := hl
    refine lv_iload_n hx hb d_M_statement_603 rfl (lv_at hl 0 rfl) ?_
    refine lv_if_ge hx hb d_M_statement_604 (tgt := 612) rfl (fun hc => ?_) (fun hc => ?_)
    · have hf := (if_pos hc).symm.trans hf
      refine lv_aload_n hx hb d_M_statement_612 rfl (lv_at hl 1 rfl) ?_
      obtain ⟨q188, e_q188, h_q188, hf⟩ := zq_qs hf
      refine zr_get (ci := 8) G hw 1 12 zi_8 rfl rfl rfl (by decide) zm_583 (fun _ h => h) (v := .ref (ad q188)) (zs_fr rfl e_q188 h_q188) d_M_statement_613 ?_
      obtain ⟨hs189, hf⟩ := zq_gs hf
      have hs189 := zq_ks hs189
      obtain ⟨q190, e_q190, h_q190, hf⟩ := zq_qs hf
      refine zr_get (ci := 9) G hw q188 8 zi_9 hs189 rfl rfl (by decide) zm_626 (fun _ h => h) (v := .ref (ad q190)) (zs_fs rfl e_q190 h_q190) d_M_statement_616 ?_
      refine lv_iload_n hx hb d_M_statement_619 rfl (lv_at hl 2 rfl) ?_
      refine lv_iload_n hx hb d_M_statement_620 rfl (lv_at hl 0 rfl) ?_
      obtain ⟨hs191, hf⟩ := zq_gs hf
      have hs191 := zq_ks hs191
      obtain ⟨hi192, hf⟩ := zq_gs hf
      obtain ⟨σ193, e_σ193, hf⟩ := zq_ss hf
      refine zr_iast G hw q190 hs191 rfl  hi192  d_M_statement_621 (fun H locs hw => ?_)
      rw [← e_σ193] at hw
      refine lv_aload_n hx hb d_M_statement_622 rfl (lv_at hl 1 rfl) ?_
      obtain ⟨σ194, hc196, hf⟩ := zq_ds hf
      refine zr_cv hw (zr_runV (rest := []) (ci := 8) (o := 1) G hw [] (zc_M_step hJ hc196) (cwV 0 hts (zs_gV zm_572 zm_573 zm_574 zm_551 zm_571) rfl rfl rfl (by decide +kernel) ⟨Nat.le_trans (show 1 + 1 ≤ fS + 111 by omega) hR1, Nat.le_trans (show 8 + (5 + 11) + (60) ≤ lS + 2375 by omega) hR2⟩) rfl rfl rfl hl.1 (Nat.le_of_ble_eq_true rfl) d_M_statement_623 ⟨Nat.zero_le _, Nat.zero_le _⟩) (fun H locs hw => ?_)
      refine lv_aload_n hx hb d_M_statement_626 rfl (lv_at hl 1 rfl) ?_
      refine va_ldcS (own := "ScheduleCheckModel") (tx := ";") (q := ad 1316) hx hb hown ((G.2.2.2.2 rfl).2.2.1 16 (by decide)) d_M_statement_627 ?_
      obtain ⟨r198, σ197, hc199, hf⟩ := zq_cs hf
      refine zr_ci hw (zr_runV (rest := []) (ci := 8) (o := 1) G hw [.ref (ad 1316)] (zc_M_take hJ hc199) (cwV 1 hts (zs_gV zm_609 zm_610 zm_611 zm_551 zm_608) rfl rfl rfl (by decide +kernel) ⟨Nat.le_trans (show 5 + 1 ≤ fS + 111 by omega) hR1, Nat.le_trans (show 8 + (2 + 11) + (107) ≤ lS + 2375 by omega) hR2⟩) rfl rfl rfl hl.1 (Nat.le_of_ble_eq_true rfl) d_M_statement_629 ⟨Nat.zero_le _, Nat.zero_le _⟩) (fun H locs hw => ?_)
      obtain ⟨hz, hf⟩ := zq_gs hf
      exact zr_zret G hw hr hlocks hz hf hQ d_M_statement_632
    · have hf := (if_neg hc).symm.trans hf
      refine lv_aload_n hx hb d_M_statement_607 rfl (lv_at hl 1 rfl) ?_
      obtain ⟨r201, σ200, hc202, hf⟩ := zq_cs hf
      refine zr_ci hw (zr_runV (rest := []) (ci := 8) (o := 1) G hw [] (zc_M_bad hJ hc202) (cwV 0 hts (zs_gV zm_576 zm_577 zm_578 zm_551 zm_575) rfl rfl rfl (by decide +kernel) ⟨Nat.le_trans (show 0 + 1 ≤ fS + 111 by omega) hR1, Nat.le_trans (show 8 + (1 + 11) + (0) ≤ lS + 2375 by omega) hR2⟩) rfl rfl rfl hl.1 (Nat.le_of_ble_eq_true rfl) d_M_statement_608 ⟨Nat.zero_le _, Nat.zero_le _⟩) (fun H locs hw => ?_)
      obtain ⟨hz, hf⟩ := zq_gs hf
      exact zr_zret G hw hr hlocks hz hf hQ d_M_statement_611
  have K601 : ∀ (x1 : Int32) (σ : zs_S) (H : Heap) (locs : List Loc) (ls : Array Slot), zf_M_statement_601 kS F x1 σ = some q → zs_I 1 D cA ad A s σ H locs → lv_has ls 5 [(0, .ref (ad 1)), (1, .int x1)] → W p l e RR s m args below meth c H locs 0 0 QQ (F0 m 601 ls []) := by
    intro  x1 σ H locs ls hf hw hl
    unfold zf_M_statement_601 at hf
    refine lv_iconst (v := (-1)) hx hb d_M_statement_601 (by decide) ?_
    exact K602 x1 ((-1)) σ H locs ls hf hw (lv_sub hl [0, 1] rfl)
  have K537 : ∀ (x1 : Int32) (σ : zs_S) (H : Heap) (locs : List Loc) (ls : Array Slot), zf_M_statement_537 kS F x1 σ = some q → zs_I 1 D cA ad A s σ H locs → lv_has ls 5 [(0, .ref (ad 1)), (1, .int x1)] → W p l e RR s m args below meth c H locs 0 0 QQ (F0 m 537 ls []) := by
    intro  x1 σ H locs ls hf hw hl
    unfold zf_M_statement_537 at hf
    refine lv_aload_n hx hb d_M_statement_537 rfl (lv_at hl 0 rfl) ?_
    obtain ⟨r157, σ156, hc158, hf⟩ := zq_cs hf
    refine zr_ci hw (zr_runV (rest := []) (ci := 8) (o := 1) G hw [] (zc_M_isName hJ hc158) (cwV 0 hts (zs_gV zm_593 zm_594 zm_595 zm_551 zm_592) rfl rfl rfl (by decide +kernel) ⟨Nat.le_trans (show 5 + 1 ≤ fS + 111 by omega) hR1, Nat.le_trans (show 8 + (2 + 11) + (107) ≤ lS + 2375 by omega) hR2⟩) rfl rfl rfl hl.1 (Nat.le_of_ble_eq_true rfl) d_M_statement_538 ⟨Nat.zero_le _, Nat.zero_le _⟩) (fun H locs hw => ?_)
    refine lv_if_eq hx hb d_M_statement_541 (tgt := 601) rfl (fun hc => ?_) (fun hc => ?_)
    · have hf := (if_pos hc).symm.trans hf
      exact K601 x1 σ156 H locs ls hf hw (lv_sub hl [0, 1] rfl)
    · have hf := (if_neg hc).symm.trans hf
      refine lv_aload_n hx hb d_M_statement_544 rfl (lv_at hl 0 rfl) ?_
      obtain ⟨q159, e_q159, h_q159, hf⟩ := zq_qs hf
      refine zr_get (ci := 8) G hw 1 13 zi_8 rfl rfl rfl (by decide) zm_701 (fun _ h => h) (v := .ref (ad q159)) (zs_fr rfl e_q159 h_q159) d_M_statement_545 ?_
      refine lv_aload_n hx hb d_M_statement_548 rfl (lv_at hl 0 rfl) ?_
      refine zr_get (ci := 8) G hw 1 0 zi_8 rfl rfl rfl (by decide) zm_547 (fun _ h => h) (v := .ref (ad 2)) rfl d_M_statement_549 ?_
      refine lv_aload_n hx hb d_M_statement_552 rfl (lv_at hl 0 rfl) ?_
      refine zr_get (ci := 8) G hw 1 8 zi_8 rfl rfl rfl (by decide) zm_544 (fun _ h => h) (v := .int (zs_i σ156 1 8)) rfl d_M_statement_553 ?_
      refine lv_aload_n hx hb d_M_statement_556 rfl (lv_at hl 0 rfl) ?_
      refine zr_get (ci := 8) G hw 1 9 zi_8 rfl rfl rfl (by decide) zm_558 (fun _ h => h) (v := .int (zs_i σ156 1 9)) rfl d_M_statement_557 ?_
      refine lv_aload_n hx hb d_M_statement_560 rfl (lv_at hl 0 rfl) ?_
      refine zr_get (ci := 8) G hw 1 8 zi_8 rfl rfl rfl (by decide) zm_544 (fun _ h => h) (v := .int (zs_i σ156 1 8)) rfl d_M_statement_561 ?_
      refine lv_isub hx hb d_M_statement_564 ?_
      obtain ⟨hs163, hf⟩ := zq_gs hf
      have hs163 := zq_ks hs163
      obtain ⟨r161, σ160, hc162, hf⟩ := zq_cs hf
      refine zr_ci hw (zr_runV (rest := []) (ci := 10) (o := q159) G hw [.ref (ad 2), .int (zs_i σ156 1 8), .int ((zs_i σ156 1 9) - (zs_i σ156 1 8))] (zc_MN_find hJ hc162) (cwV 3 hts (zs_gV zm_599 zm_600 zm_601 zm_602 zm_598) rfl rfl rfl (by decide +kernel) ⟨Nat.le_trans (show 0 + 1 ≤ fS + 111 by omega) hR1, Nat.le_trans (show 8 + (7 + 11) + (0) ≤ lS + 2375 by omega) hR2⟩) hs163 rfl rfl hl.1 (Nat.le_of_ble_eq_true rfl) d_M_statement_565 ⟨Nat.zero_le _, Nat.zero_le _⟩) (fun H locs hw => ?_)
      refine lv_if_ge hx hb d_M_statement_568 (tgt := 601) rfl (fun hc => ?_) (fun hc => ?_)
      · have hf := (if_pos hc).symm.trans hf
        exact K601 x1 σ160 H locs ls hf hw (lv_sub hl [0, 1] rfl)
      · have hf := (if_neg hc).symm.trans hf
        refine lv_aload_n hx hb d_M_statement_571 rfl (lv_at hl 0 rfl) ?_
        obtain ⟨q164, e_q164, h_q164, hf⟩ := zq_qs hf
        refine zr_get (ci := 8) G hw 1 12 zi_8 rfl rfl rfl (by decide) zm_583 (fun _ h => h) (v := .ref (ad q164)) (zs_fr rfl e_q164 h_q164) d_M_statement_572 ?_
        obtain ⟨hs165, hf⟩ := zq_gs hf
        have hs165 := zq_ks hs165
        obtain ⟨q166, e_q166, h_q166, hf⟩ := zq_qs hf
        refine zr_get (ci := 9) G hw q164 1 zi_9 hs165 rfl rfl (by decide) zm_590 (fun _ h => h) (v := .ref (ad q166)) (zs_fs rfl e_q166 h_q166) d_M_statement_575 ?_
        refine lv_aload_n hx hb d_M_statement_578 rfl (lv_at hl 0 rfl) ?_
        refine zr_get (ci := 8) G hw 1 0 zi_8 rfl rfl rfl (by decide) zm_547 (fun _ h => h) (v := .ref (ad 2)) rfl d_M_statement_579 ?_
        refine lv_aload_n hx hb d_M_statement_582 rfl (lv_at hl 0 rfl) ?_
        refine zr_get (ci := 8) G hw 1 8 zi_8 rfl rfl rfl (by decide) zm_544 (fun _ h => h) (v := .int (zs_i σ160 1 8)) rfl d_M_statement_583 ?_
        refine lv_aload_n hx hb d_M_statement_586 rfl (lv_at hl 0 rfl) ?_
        refine zr_get (ci := 8) G hw 1 9 zi_8 rfl rfl rfl (by decide) zm_558 (fun _ h => h) (v := .int (zs_i σ160 1 9)) rfl d_M_statement_587 ?_
        refine lv_aload_n hx hb d_M_statement_590 rfl (lv_at hl 0 rfl) ?_
        refine zr_get (ci := 8) G hw 1 8 zi_8 rfl rfl rfl (by decide) zm_544 (fun _ h => h) (v := .int (zs_i σ160 1 8)) rfl d_M_statement_591 ?_
        refine lv_isub hx hb d_M_statement_594 ?_
        obtain ⟨hs170, hf⟩ := zq_gs hf
        have hs170 := zq_ks hs170
        obtain ⟨r168, σ167, hc169, hf⟩ := zq_cs hf
        refine zr_ci hw (zr_runV (rest := []) (ci := 10) (o := q166) G hw [.ref (ad 2), .int (zs_i σ160 1 8), .int ((zs_i σ160 1 9) - (zs_i σ160 1 8))] (zc_MN_find hJ hc169) (cwV 3 hts (zs_gV zm_599 zm_600 zm_601 zm_602 zm_598) rfl rfl rfl (by decide +kernel) ⟨Nat.le_trans (show 0 + 1 ≤ fS + 111 by omega) hR1, Nat.le_trans (show 8 + (7 + 11) + (0) ≤ lS + 2375 by omega) hR2⟩) hs170 rfl rfl hl.1 (Nat.le_of_ble_eq_true rfl) d_M_statement_595 ⟨Nat.zero_le _, Nat.zero_le _⟩) (fun H locs hw => ?_)
        refine lv_goto hx hb d_M_statement_598 (tgt := 602) rfl ?_
        exact K602 x1 r168 σ167 H locs ls hf hw (lv_sub hl [0, 1] rfl)
  have K496 : ∀ (x1 : Int32) (t0 : Int32) (t1 : Int32) (t2 : Nat) (σ : zs_S) (H : Heap) (locs : List Loc) (ls : Array Slot), zf_M_statement_496 kS F x1 t0 t1 t2 σ = some q → zs_I 1 D cA ad A s σ H locs → lv_has ls 5 [(0, .ref (ad 1)), (1, .int x1)] → W p l e RR s m args below meth c H locs 0 0 QQ (F0 m 496 ls [.int t0, .int t1, .ref (ad t2)]) := by
    intro  x1 t0 t1 t2 σ H locs ls hf hw hl
    unfold zf_M_statement_496 at hf
    obtain ⟨hs88, hf⟩ := zq_gs hf
    have hs88 := zq_ks hs88
    obtain ⟨hi89, hf⟩ := zq_gs hf
    obtain ⟨σ90, e_σ90, hf⟩ := zq_ss hf
    refine zr_iast G hw t2 hs88 rfl  hi89  d_M_statement_496 (fun H locs hw => ?_)
    rw [← e_σ90] at hw
    refine lv_aload_n hx hb d_M_statement_497 rfl (lv_at hl 0 rfl) ?_
    obtain ⟨σ91, hc93, hf⟩ := zq_ds hf
    refine zr_cv hw (zr_runV (rest := []) (ci := 8) (o := 1) G hw [] (zc_M_step hJ hc93) (cwV 0 hts (zs_gV zm_572 zm_573 zm_574 zm_551 zm_571) rfl rfl rfl (by decide +kernel) ⟨Nat.le_trans (show 1 + 1 ≤ fS + 111 by omega) hR1, Nat.le_trans (show 8 + (5 + 11) + (60) ≤ lS + 2375 by omega) hR2⟩) rfl rfl rfl hl.1 (Nat.le_of_ble_eq_true rfl) d_M_statement_498 ⟨Nat.zero_le _, Nat.zero_le _⟩) (fun H locs hw => ?_)
    refine lv_aload_n hx hb d_M_statement_501 rfl (lv_at hl 0 rfl) ?_
    obtain ⟨q94, e_q94, h_q94, hf⟩ := zq_qs hf
    refine zr_get (ci := 8) G hw 1 12 zi_8 rfl rfl rfl (by decide) zm_583 (fun _ h => h) (v := .ref (ad q94)) (zs_fr rfl e_q94 h_q94) d_M_statement_502 ?_
    obtain ⟨hs95, hf⟩ := zq_gs hf
    have hs95 := zq_ks hs95
    obtain ⟨q96, e_q96, h_q96, hf⟩ := zq_qs hf
    refine zr_get (ci := 9) G hw q94 7 zi_9 hs95 rfl rfl (by decide) zm_625 (fun _ h => h) (v := .ref (ad q96)) (zs_fs rfl e_q96 h_q96) d_M_statement_505 ?_
    refine lv_iload_n hx hb d_M_statement_508 rfl (lv_at hl 1 rfl) ?_
    obtain ⟨hs97, hf⟩ := zq_gs hf
    have hs97 := zq_ks hs97
    obtain ⟨hi98, hf⟩ := zq_gs hf
    refine zr_iald G hw q96 hs97 rfl hi98 d_M_statement_509 ?_
    refine lv_iconst (v := 4) hx hb d_M_statement_510 (by decide) ?_
    refine lv_icmp_ne hx hb d_M_statement_511 (tgt := 537) rfl (fun hc => ?_) (fun hc => ?_)
    · have hf := (if_neg hc).symm.trans hf
      exact K537 x1 σ91 H locs ls hf hw (lv_sub hl [0, 1] rfl)
    · have hf := (if_pos hc).symm.trans hf
      refine lv_aload_n hx hb d_M_statement_514 rfl (lv_at hl 0 rfl) ?_
      refine va_ldcS (own := "ScheduleCheckModel") (tx := "all") (q := ad 1308) hx hb hown ((G.2.2.2.2 rfl).2.2.1 8 (by decide)) d_M_statement_515 ?_
      obtain ⟨r100, σ99, hc101, hf⟩ := zq_cs hf
      refine zr_ci hw (zr_runV (rest := []) (ci := 8) (o := 1) G hw [.ref (ad 1308)] (zc_M_is hJ hc101) (cwV 1 hts (zs_gV zm_568 zm_569 zm_570 zm_551 zm_567) rfl rfl rfl (by decide +kernel) ⟨Nat.le_trans (show 4 + 1 ≤ fS + 111 by omega) hR1, Nat.le_trans (show 8 + (3 + 11) + (85) ≤ lS + 2375 by omega) hR2⟩) rfl rfl rfl hl.1 (Nat.le_of_ble_eq_true rfl) d_M_statement_517 ⟨Nat.zero_le _, Nat.zero_le _⟩) (fun H locs hw => ?_)
      refine lv_if_eq hx hb d_M_statement_520 (tgt := 537) rfl (fun hc => ?_) (fun hc => ?_)
      · have hf := (if_pos hc).symm.trans hf
        exact K537 x1 σ99 H locs ls hf hw (lv_sub hl [0, 1] rfl)
      · have hf := (if_neg hc).symm.trans hf
        refine lv_aload_n hx hb d_M_statement_523 rfl (lv_at hl 0 rfl) ?_
        obtain ⟨q102, e_q102, h_q102, hf⟩ := zq_qs hf
        refine zr_get (ci := 8) G hw 1 12 zi_8 rfl rfl rfl (by decide) zm_583 (fun _ h => h) (v := .ref (ad q102)) (zs_fr rfl e_q102 h_q102) d_M_statement_524 ?_
        obtain ⟨hs103, hf⟩ := zq_gs hf
        have hs103 := zq_ks hs103
        obtain ⟨q104, e_q104, h_q104, hf⟩ := zq_qs hf
        refine zr_get (ci := 9) G hw q102 7 zi_9 hs103 rfl rfl (by decide) zm_625 (fun _ h => h) (v := .ref (ad q104)) (zs_fs rfl e_q104 h_q104) d_M_statement_527 ?_
        refine lv_iload_n hx hb d_M_statement_530 rfl (lv_at hl 1 rfl) ?_
        refine lv_iconst (v := 5) hx hb d_M_statement_531 (by decide) ?_
        obtain ⟨hs105, hf⟩ := zq_gs hf
        have hs105 := zq_ks hs105
        obtain ⟨hi106, hf⟩ := zq_gs hf
        obtain ⟨σ107, e_σ107, hf⟩ := zq_ss hf
        refine zr_iast G hw q104 hs105 rfl  hi106  d_M_statement_532 (fun H locs hw => ?_)
        rw [← e_σ107] at hw
        refine lv_aload_n hx hb d_M_statement_533 rfl (lv_at hl 0 rfl) ?_
        obtain ⟨σ108, hc110, hf⟩ := zq_ds hf
        refine zr_cv hw (zr_runV (rest := []) (ci := 8) (o := 1) G hw [] (zc_M_step hJ hc110) (cwV 0 hts (zs_gV zm_572 zm_573 zm_574 zm_551 zm_571) rfl rfl rfl (by decide +kernel) ⟨Nat.le_trans (show 1 + 1 ≤ fS + 111 by omega) hR1, Nat.le_trans (show 8 + (5 + 11) + (60) ≤ lS + 2375 by omega) hR2⟩) rfl rfl rfl hl.1 (Nat.le_of_ble_eq_true rfl) d_M_statement_534 ⟨Nat.zero_le _, Nat.zero_le _⟩) (fun H locs hw => ?_)
        exact K537 x1 σ108 H locs ls hf hw (lv_sub hl [0, 1] rfl)
  have K447 : ∀ (t0 : Int32) (σ : zs_S) (H : Heap) (locs : List Loc) (ls : Array Slot), zf_M_statement_447 kS F t0 σ = some q → zs_I 1 D cA ad A s σ H locs → lv_has ls 5 [] → W p l e RR s m args below meth c H locs 0 0 QQ (F0 m 447 ls [.int t0]) := by
    intro  t0 σ H locs ls hf hw hl
    unfold zf_M_statement_447 at hf
    obtain ⟨hz, hf⟩ := zq_gs hf
    exact zr_zret G hw hr hlocks hz hf hQ d_M_statement_447
  have K446 : ∀ (σ : zs_S) (H : Heap) (locs : List Loc) (ls : Array Slot), zf_M_statement_446 kS F σ = some q → zs_I 1 D cA ad A s σ H locs → lv_has ls 5 [] → W p l e RR s m args below meth c H locs 0 0 QQ (F0 m 446 ls []) := by
    intro   σ H locs ls hf hw hl
    unfold zf_M_statement_446 at hf
    refine lv_iconst (v := 0) hx hb d_M_statement_446 (by decide) ?_
    exact K447 0 σ H locs ls hf hw (lv_sub hl [] rfl)
  have K411 : ∀ (x1 : Int32) (t0 : Int32) (t1 : Int32) (t2 : Nat) (σ : zs_S) (H : Heap) (locs : List Loc) (ls : Array Slot), zf_M_statement_411 kS F x1 t0 t1 t2 σ = some q → zs_I 1 D cA ad A s σ H locs → lv_has ls 5 [(0, .ref (ad 1)), (1, .int x1)] → W p l e RR s m args below meth c H locs 0 0 QQ (F0 m 411 ls [.int t0, .int t1, .ref (ad t2)]) := by
    intro  x1 t0 t1 t2 σ H locs ls hf hw hl
    unfold zf_M_statement_411 at hf
    obtain ⟨hs141, hf⟩ := zq_gs hf
    have hs141 := zq_ks hs141
    obtain ⟨hi142, hf⟩ := zq_gs hf
    obtain ⟨σ143, e_σ143, hf⟩ := zq_ss hf
    refine zr_iast G hw t2 hs141 rfl  hi142  d_M_statement_411 (fun H locs hw => ?_)
    rw [← e_σ143] at hw
    refine lv_aload_n hx hb d_M_statement_412 rfl (lv_at hl 0 rfl) ?_
    obtain ⟨σ144, hc146, hf⟩ := zq_ds hf
    refine zr_cv hw (zr_runV (rest := []) (ci := 8) (o := 1) G hw [] (zc_M_step hJ hc146) (cwV 0 hts (zs_gV zm_572 zm_573 zm_574 zm_551 zm_571) rfl rfl rfl (by decide +kernel) ⟨Nat.le_trans (show 1 + 1 ≤ fS + 111 by omega) hR1, Nat.le_trans (show 8 + (5 + 11) + (60) ≤ lS + 2375 by omega) hR2⟩) rfl rfl rfl hl.1 (Nat.le_of_ble_eq_true rfl) d_M_statement_413 ⟨Nat.zero_le _, Nat.zero_le _⟩) (fun H locs hw => ?_)
    refine lv_aload_n hx hb d_M_statement_416 rfl (lv_at hl 0 rfl) ?_
    refine va_ldcS (own := "ScheduleCheckModel") (tx := "=") (q := ad 1314) hx hb hown ((G.2.2.2.2 rfl).2.2.1 14 (by decide)) d_M_statement_417 ?_
    obtain ⟨r148, σ147, hc149, hf⟩ := zq_cs hf
    refine zr_ci hw (zr_runV (rest := []) (ci := 8) (o := 1) G hw [.ref (ad 1314)] (zc_M_take hJ hc149) (cwV 1 hts (zs_gV zm_609 zm_610 zm_611 zm_551 zm_608) rfl rfl rfl (by decide +kernel) ⟨Nat.le_trans (show 5 + 1 ≤ fS + 111 by omega) hR1, Nat.le_trans (show 8 + (2 + 11) + (107) ≤ lS + 2375 by omega) hR2⟩) rfl rfl rfl hl.1 (Nat.le_of_ble_eq_true rfl) d_M_statement_419 ⟨Nat.zero_le _, Nat.zero_le _⟩) (fun H locs hw => ?_)
    refine lv_if_eq hx hb d_M_statement_422 (tgt := 446) rfl (fun hc => ?_) (fun hc => ?_)
    · have hf := (if_pos hc).symm.trans hf
      exact K446 σ147 H locs ls hf hw (lv_sub hl [] rfl)
    · have hf := (if_neg hc).symm.trans hf
      refine lv_aload_n hx hb d_M_statement_425 rfl (lv_at hl 0 rfl) ?_
      refine lv_iload_n hx hb d_M_statement_426 rfl (lv_at hl 1 rfl) ?_
      obtain ⟨r151, σ150, hc152, hf⟩ := zq_cs hf
      refine zr_ci hw (zr_runV (rest := []) (ci := 8) (o := 1) G hw [.int x1] (zc_M_whole hJ hc152) (cwV 1 hts (zs_gV zm_711 zm_712 zm_713 zm_551 zm_710) rfl rfl rfl (by decide +kernel) ⟨Nat.le_trans (show 110 + 1 ≤ fS + 111 by omega) hR1, Nat.le_trans (show 8 + (2 + 11) + (2354) ≤ lS + 2375 by omega) hR2⟩) rfl rfl rfl hl.1 (Nat.le_of_ble_eq_true rfl) d_M_statement_427 ⟨Nat.zero_le _, Nat.zero_le _⟩) (fun H locs hw => ?_)
      refine lv_if_eq hx hb d_M_statement_430 (tgt := 446) rfl (fun hc => ?_) (fun hc => ?_)
      · have hf := (if_pos hc).symm.trans hf
        exact K446 σ150 H locs ls hf hw (lv_sub hl [] rfl)
      · have hf := (if_neg hc).symm.trans hf
        refine lv_aload_n hx hb d_M_statement_433 rfl (lv_at hl 0 rfl) ?_
        refine va_ldcS (own := "ScheduleCheckModel") (tx := ";") (q := ad 1316) hx hb hown ((G.2.2.2.2 rfl).2.2.1 16 (by decide)) d_M_statement_434 ?_
        obtain ⟨r154, σ153, hc155, hf⟩ := zq_cs hf
        refine zr_ci hw (zr_runV (rest := []) (ci := 8) (o := 1) G hw [.ref (ad 1316)] (zc_M_take hJ hc155) (cwV 1 hts (zs_gV zm_609 zm_610 zm_611 zm_551 zm_608) rfl rfl rfl (by decide +kernel) ⟨Nat.le_trans (show 5 + 1 ≤ fS + 111 by omega) hR1, Nat.le_trans (show 8 + (2 + 11) + (107) ≤ lS + 2375 by omega) hR2⟩) rfl rfl rfl hl.1 (Nat.le_of_ble_eq_true rfl) d_M_statement_436 ⟨Nat.zero_le _, Nat.zero_le _⟩) (fun H locs hw => ?_)
        refine lv_if_eq hx hb d_M_statement_439 (tgt := 446) rfl (fun hc => ?_) (fun hc => ?_)
        · have hf := (if_pos hc).symm.trans hf
          exact K446 σ153 H locs ls hf hw (lv_sub hl [] rfl)
        · have hf := (if_neg hc).symm.trans hf
          refine lv_iconst (v := 1) hx hb d_M_statement_442 (by decide) ?_
          refine lv_goto hx hb d_M_statement_443 (tgt := 447) rfl ?_
          exact K447 1 σ153 H locs ls hf hw (lv_sub hl [] rfl)
  have K380 : ∀ (x1 : Int32) (x3 : Int32) (x4 : Int32) (σ : zs_S) (H : Heap) (locs : List Loc) (ls : Array Slot), zf_M_statement_380 kS F x1 x3 x4 σ = some q → zs_I 1 D cA ad A s σ H locs → lv_has ls 5 [(0, .ref (ad 1)), (1, .int x1), (3, .int x3), (4, .int x4)] → W p l e RR s m args below meth c H locs 0 0 QQ (F0 m 380 ls []) := by
    intro  x1 x3 x4 σ H locs ls hf hw hl
    unfold zf_M_statement_380 at hf
    refine lv_aload_n hx hb d_M_statement_380 rfl (lv_at hl 0 rfl) ?_
    obtain ⟨q79, e_q79, h_q79, hf⟩ := zq_qs hf
    refine zr_get (ci := 8) G hw 1 12 zi_8 rfl rfl rfl (by decide) zm_583 (fun _ h => h) (v := .ref (ad q79)) (zs_fr rfl e_q79 h_q79) d_M_statement_381 ?_
    obtain ⟨hs80, hf⟩ := zq_gs hf
    have hs80 := zq_ks hs80
    obtain ⟨q81, e_q81, h_q81, hf⟩ := zq_qs hf
    refine zr_get (ci := 9) G hw q79 7 zi_9 hs80 rfl rfl (by decide) zm_625 (fun _ h => h) (v := .ref (ad q81)) (zs_fs rfl e_q81 h_q81) d_M_statement_384 ?_
    refine lv_iload_n hx hb d_M_statement_387 rfl (lv_at hl 1 rfl) ?_
    refine lv_iconst (v := 0) hx hb d_M_statement_388 (by decide) ?_
    obtain ⟨hs82, hf⟩ := zq_gs hf
    have hs82 := zq_ks hs82
    obtain ⟨hi83, hf⟩ := zq_gs hf
    obtain ⟨σ84, e_σ84, hf⟩ := zq_ss hf
    refine zr_iast G hw q81 hs82 rfl  hi83  d_M_statement_389 (fun H locs hw => ?_)
    rw [← e_σ84] at hw
    refine lv_aload_n hx hb d_M_statement_390 rfl (lv_at hl 0 rfl) ?_
    obtain ⟨q85, e_q85, h_q85, hf⟩ := zq_qs hf
    refine zr_get (ci := 8) G hw 1 12 zi_8 rfl rfl rfl (by decide) zm_583 (fun _ h => h) (v := .ref (ad q85)) (zs_fr rfl e_q85 h_q85) d_M_statement_391 ?_
    obtain ⟨hs86, hf⟩ := zq_gs hf
    have hs86 := zq_ks hs86
    obtain ⟨q87, e_q87, h_q87, hf⟩ := zq_qs hf
    refine zr_get (ci := 9) G hw q85 8 zi_9 hs86 rfl rfl (by decide) zm_626 (fun _ h => h) (v := .ref (ad q87)) (zs_fs rfl e_q87 h_q87) d_M_statement_394 ?_
    refine lv_iload_n hx hb d_M_statement_397 rfl (lv_at hl 1 rfl) ?_
    refine lv_iload_n hx hb d_M_statement_398 rfl (lv_at hl 2 rfl) ?_
    refine lv_if_lt hx hb d_M_statement_399 (tgt := 409) rfl (fun hc => ?_) (fun hc => ?_)
    · have hf := (if_pos hc).symm.trans hf
      refine lv_iload hx hb d_M_statement_409 (lv_at hl 3 rfl) ?_
      exact K411 x1 x4 x1 q87 σ84 H locs ls hf hw (lv_sub hl [0, 1] rfl)
    · have hf := (if_neg hc).symm.trans hf
      refine lv_bipush (v := 8) hx hb d_M_statement_402 (by decide) ?_
      refine lv_iload_n hx hb d_M_statement_404 rfl (lv_at hl 2 rfl) ?_
      refine lv_iadd hx hb d_M_statement_405 ?_
      refine lv_goto hx hb d_M_statement_406 (tgt := 411) rfl ?_
      exact K411 x1 (8 + x3) x1 q87 σ84 H locs ls hf hw (lv_sub hl [0, 1] rfl)
  have K304 : ∀ (t0 : Int32) (σ : zs_S) (H : Heap) (locs : List Loc) (ls : Array Slot), zf_M_statement_304 kS F t0 σ = some q → zs_I 1 D cA ad A s σ H locs → lv_has ls 5 [] → W p l e RR s m args below meth c H locs 0 0 QQ (F0 m 304 ls [.int t0]) := by
    intro  t0 σ H locs ls hf hw hl
    unfold zf_M_statement_304 at hf
    obtain ⟨hz, hf⟩ := zq_gs hf
    exact zr_zret G hw hr hlocks hz hf hQ d_M_statement_304
  have K303 : ∀ (σ : zs_S) (H : Heap) (locs : List Loc) (ls : Array Slot), zf_M_statement_303 kS F σ = some q → zs_I 1 D cA ad A s σ H locs → lv_has ls 5 [] → W p l e RR s m args below meth c H locs 0 0 QQ (F0 m 303 ls []) := by
    intro   σ H locs ls hf hw hl
    unfold zf_M_statement_303 at hf
    refine lv_iconst (v := 0) hx hb d_M_statement_303 (by decide) ?_
    exact K304 0 σ H locs ls hf hw (lv_sub hl [] rfl)
  have K185 : ∀ (x1 : Int32) (σ : zs_S) (H : Heap) (locs : List Loc) (ls : Array Slot), zf_M_statement_185 kS F x1 σ = some q → zs_I 1 D cA ad A s σ H locs → lv_has ls 5 [(0, .ref (ad 1)), (1, .int x1)] → W p l e RR s m args below meth c H locs 0 0 QQ (F0 m 185 ls []) := by
    intro  x1 σ H locs ls hf hw hl
    unfold zf_M_statement_185 at hf
    refine lv_aload_n hx hb d_M_statement_185 rfl (lv_at hl 0 rfl) ?_
    refine zr_get (ci := 8) G hw 1 15 zi_8 rfl rfl rfl (by decide) zm_587 (fun _ h => h) (v := .ref (ad 57)) rfl d_M_statement_186 ?_
    refine lv_aload_n hx hb d_M_statement_189 rfl (lv_at hl 0 rfl) ?_
    refine lv_dup hx hb d_M_statement_190 rfl ?_
    refine zr_get (ci := 8) G hw 1 16 zi_8 rfl rfl rfl (by decide) zm_586 (fun _ h => h) (v := .int (zs_i σ 1 16)) rfl d_M_statement_191 ?_
    refine lv_dup_x1 hx hb d_M_statement_194 rfl rfl ?_
    refine lv_iconst (v := 1) hx hb d_M_statement_195 (by decide) ?_
    refine lv_iadd hx hb d_M_statement_196 ?_
    obtain ⟨σ203, e_σ203, hf⟩ := zq_ss hf
    refine zr_puti (ci := 8) G hw 1 16 zi_8 t_zd8 t_zd8_ok n_zd8 rfl rfl rfl (by decide) rfl zm_586 (fun _ h => h) rfl (x := ((zs_i σ 1 16) + 1)) (t_zd8_ok 16 (by decide)) rfl rfl d_M_statement_197 (fun H locs hw => ?_)
    rw [← e_σ203] at hw
    refine lv_iconst (v := 3) hx hb d_M_statement_200 (by decide) ?_
    refine lv_iload_n hx hb d_M_statement_201 rfl (lv_at hl 1 rfl) ?_
    refine lv_imul hx hb d_M_statement_202 ?_
    refine lv_iconst (v := 2) hx hb d_M_statement_203 (by decide) ?_
    refine lv_iadd hx hb d_M_statement_204 ?_
    obtain ⟨hi204, hf⟩ := zq_gs hf
    obtain ⟨σ205, e_σ205, hf⟩ := zq_ss hf
    refine zr_iast G hw 57 rfl rfl  hi204  d_M_statement_205 (fun H locs hw => ?_)
    rw [← e_σ205] at hw
    refine lv_iconst (v := 1) hx hb d_M_statement_206 (by decide) ?_
    exact zr_zret G hw hr hlocks (by decide) hf hQ d_M_statement_207
  have K131 : ∀ (x1 : Int32) (x2 : Int32) (σ : zs_S) (H : Heap) (locs : List Loc) (ls : Array Slot), zf_M_statement_131 kS F x1 x2 σ = some q → zs_I 1 D cA ad A s σ H locs → lv_has ls 5 [(0, .ref (ad 1)), (1, .int x1), (2, .int x2)] → W p l e RR s m args below meth c H locs 0 0 QQ (F0 m 131 ls []) := by
    intro  x1 x2 σ H locs ls hf hw hl
    unfold zf_M_statement_131 at hf
    refine lv_aload_n hx hb d_M_statement_131 rfl (lv_at hl 0 rfl) ?_
    obtain ⟨q171, e_q171, h_q171, hf⟩ := zq_qs hf
    refine zr_get (ci := 8) G hw 1 12 zi_8 rfl rfl rfl (by decide) zm_583 (fun _ h => h) (v := .ref (ad q171)) (zs_fr rfl e_q171 h_q171) d_M_statement_132 ?_
    obtain ⟨hs172, hf⟩ := zq_gs hf
    have hs172 := zq_ks hs172
    obtain ⟨q173, e_q173, h_q173, hf⟩ := zq_qs hf
    refine zr_get (ci := 9) G hw q171 7 zi_9 hs172 rfl rfl (by decide) zm_625 (fun _ h => h) (v := .ref (ad q173)) (zs_fs rfl e_q173 h_q173) d_M_statement_135 ?_
    refine lv_iload_n hx hb d_M_statement_138 rfl (lv_at hl 1 rfl) ?_
    obtain ⟨hs174, hf⟩ := zq_gs hf
    have hs174 := zq_ks hs174
    obtain ⟨hi175, hf⟩ := zq_gs hf
    refine zr_iald G hw q173 hs174 rfl hi175 d_M_statement_139 ?_
    refine lv_bipush (v := 7) hx hb d_M_statement_140 (by decide) ?_
    refine lv_icmp_ne hx hb d_M_statement_142 (tgt := 185) rfl (fun hc => ?_) (fun hc => ?_)
    · have hf := (if_neg hc).symm.trans hf
      exact K185 x1 σ H locs ls hf hw (lv_sub hl [0, 1] rfl)
    · have hf := (if_pos hc).symm.trans hf
      refine lv_aload_n hx hb d_M_statement_145 rfl (lv_at hl 0 rfl) ?_
      refine va_ldcS (own := "ScheduleCheckModel") (tx := "else") (q := ad 1311) hx hb hown ((G.2.2.2.2 rfl).2.2.1 11 (by decide)) d_M_statement_146 ?_
      obtain ⟨r177, σ176, hc178, hf⟩ := zq_cs hf
      refine zr_ci hw (zr_runV (rest := []) (ci := 8) (o := 1) G hw [.ref (ad 1311)] (zc_M_is hJ hc178) (cwV 1 hts (zs_gV zm_568 zm_569 zm_570 zm_551 zm_567) rfl rfl rfl (by decide +kernel) ⟨Nat.le_trans (show 4 + 1 ≤ fS + 111 by omega) hR1, Nat.le_trans (show 8 + (3 + 11) + (85) ≤ lS + 2375 by omega) hR2⟩) rfl rfl rfl hl.1 (Nat.le_of_ble_eq_true rfl) d_M_statement_148 ⟨Nat.zero_le _, Nat.zero_le _⟩) (fun H locs hw => ?_)
      refine lv_if_eq hx hb d_M_statement_151 (tgt := 185) rfl (fun hc => ?_) (fun hc => ?_)
      · have hf := (if_pos hc).symm.trans hf
        exact K185 x1 σ176 H locs ls hf hw (lv_sub hl [0, 1] rfl)
      · have hf := (if_neg hc).symm.trans hf
        refine lv_aload_n hx hb d_M_statement_154 rfl (lv_at hl 0 rfl) ?_
        obtain ⟨σ179, hc181, hf⟩ := zq_ds hf
        refine zr_cv hw (zr_runV (rest := []) (ci := 8) (o := 1) G hw [] (zc_M_step hJ hc181) (cwV 0 hts (zs_gV zm_572 zm_573 zm_574 zm_551 zm_571) rfl rfl rfl (by decide +kernel) ⟨Nat.le_trans (show 1 + 1 ≤ fS + 111 by omega) hR1, Nat.le_trans (show 8 + (5 + 11) + (60) ≤ lS + 2375 by omega) hR2⟩) rfl rfl rfl hl.1 (Nat.le_of_ble_eq_true rfl) d_M_statement_155 ⟨Nat.zero_le _, Nat.zero_le _⟩) (fun H locs hw => ?_)
        refine lv_aload_n hx hb d_M_statement_158 rfl (lv_at hl 0 rfl) ?_
        refine zr_get (ci := 8) G hw 1 15 zi_8 rfl rfl rfl (by decide) zm_587 (fun _ h => h) (v := .ref (ad 57)) rfl d_M_statement_159 ?_
        refine lv_aload_n hx hb d_M_statement_162 rfl (lv_at hl 0 rfl) ?_
        refine lv_dup hx hb d_M_statement_163 rfl ?_
        refine zr_get (ci := 8) G hw 1 16 zi_8 rfl rfl rfl (by decide) zm_586 (fun _ h => h) (v := .int (zs_i σ179 1 16)) rfl d_M_statement_164 ?_
        refine lv_dup_x1 hx hb d_M_statement_167 rfl rfl ?_
        refine lv_iconst (v := 1) hx hb d_M_statement_168 (by decide) ?_
        refine lv_iadd hx hb d_M_statement_169 ?_
        obtain ⟨σ182, e_σ182, hf⟩ := zq_ss hf
        refine zr_puti (ci := 8) G hw 1 16 zi_8 t_zd8 t_zd8_ok n_zd8 rfl rfl rfl (by decide) rfl zm_586 (fun _ h => h) rfl (x := ((zs_i σ179 1 16) + 1)) (t_zd8_ok 16 (by decide)) rfl rfl d_M_statement_170 (fun H locs hw => ?_)
        rw [← e_σ182] at hw
        refine lv_iconst (v := 3) hx hb d_M_statement_173 (by decide) ?_
        refine lv_iload_n hx hb d_M_statement_174 rfl (lv_at hl 1 rfl) ?_
        refine lv_imul hx hb d_M_statement_175 ?_
        refine lv_iconst (v := 2) hx hb d_M_statement_176 (by decide) ?_
        refine lv_iadd hx hb d_M_statement_177 ?_
        obtain ⟨hi183, hf⟩ := zq_gs hf
        obtain ⟨σ184, e_σ184, hf⟩ := zq_ss hf
        refine zr_iast G hw 57 rfl rfl  hi183  d_M_statement_178 (fun H locs hw => ?_)
        rw [← e_σ184] at hw
        refine lv_aload_n hx hb d_M_statement_179 rfl (lv_at hl 0 rfl) ?_
        refine lv_iload_n hx hb d_M_statement_180 rfl (lv_at hl 2 rfl) ?_
        obtain ⟨r186, σ185, hc187, hf⟩ := zq_cs hf
        refine zr_ci hw (zr_runV (rest := []) (ci := 8) (o := 1) G hw [.int x2] (zc_M_block hS hJ hc187) (cwV 1 hts (zs_gV zm_715 zm_716 zm_717 zm_551 zm_714) rfl rfl rfl (by decide +kernel) ⟨Nat.le_trans (show fS + 5 + 1 ≤ fS + 111 by omega) hR1, Nat.le_trans (show 8 + (3 + 11) + (lS + 107) ≤ lS + 2375 by omega) hR2⟩) rfl rfl rfl hl.1 (Nat.le_of_ble_eq_true rfl) d_M_statement_181 ⟨Nat.zero_le _, Nat.zero_le _⟩) (fun H locs hw => ?_)
        obtain ⟨hz, hf⟩ := zq_gs hf
        exact zr_zret G hw hr hlocks hz hf hQ d_M_statement_184
  have K73 : ∀ (σ : zs_S) (H : Heap) (locs : List Loc) (ls : Array Slot), zf_M_statement_73 kS F σ = some q → zs_I 1 D cA ad A s σ H locs → lv_has ls 5 [] → W p l e RR s m args below meth c H locs 0 0 QQ (F0 m 73 ls []) := by
    intro   σ H locs ls hf hw hl
    unfold zf_M_statement_73 at hf
    refine lv_iconst (v := 0) hx hb d_M_statement_73 (by decide) ?_
    exact zr_zret G hw hr hlocks (by decide) hf hQ d_M_statement_74
  have K42 : ∀ (x1 : Int32) (x2 : Int32) (t0 : Int32) (t1 : Int32) (t2 : Nat) (σ : zs_S) (H : Heap) (locs : List Loc) (ls : Array Slot), zf_M_statement_42 kS F x1 x2 t0 t1 t2 σ = some q → zs_I 1 D cA ad A s σ H locs → lv_has ls 5 [(0, .ref (ad 1)), (1, .int x1), (2, .int x2)] → W p l e RR s m args below meth c H locs 0 0 QQ (F0 m 42 ls [.int t0, .int t1, .ref (ad t2)]) := by
    intro  x1 x2 t0 t1 t2 σ H locs ls hf hw hl
    unfold zf_M_statement_42 at hf
    obtain ⟨hs111, hf⟩ := zq_gs hf
    have hs111 := zq_ks hs111
    obtain ⟨hi112, hf⟩ := zq_gs hf
    obtain ⟨σ113, e_σ113, hf⟩ := zq_ss hf
    refine zr_iast G hw t2 hs111 rfl  hi112  d_M_statement_42 (fun H locs hw => ?_)
    rw [← e_σ113] at hw
    refine lv_aload_n hx hb d_M_statement_43 rfl (lv_at hl 0 rfl) ?_
    obtain ⟨σ114, hc116, hf⟩ := zq_ds hf
    refine zr_cv hw (zr_runV (rest := []) (ci := 8) (o := 1) G hw [] (zc_M_step hJ hc116) (cwV 0 hts (zs_gV zm_572 zm_573 zm_574 zm_551 zm_571) rfl rfl rfl (by decide +kernel) ⟨Nat.le_trans (show 1 + 1 ≤ fS + 111 by omega) hR1, Nat.le_trans (show 8 + (5 + 11) + (60) ≤ lS + 2375 by omega) hR2⟩) rfl rfl rfl hl.1 (Nat.le_of_ble_eq_true rfl) d_M_statement_44 ⟨Nat.zero_le _, Nat.zero_le _⟩) (fun H locs hw => ?_)
    refine lv_aload_n hx hb d_M_statement_47 rfl (lv_at hl 0 rfl) ?_
    refine va_ldcS (own := "ScheduleCheckModel") (tx := "(") (q := ad 1319) hx hb hown ((G.2.2.2.2 rfl).2.2.1 19 (by decide)) d_M_statement_48 ?_
    obtain ⟨r118, σ117, hc119, hf⟩ := zq_cs hf
    refine zr_ci hw (zr_runV (rest := []) (ci := 8) (o := 1) G hw [.ref (ad 1319)] (zc_M_take hJ hc119) (cwV 1 hts (zs_gV zm_609 zm_610 zm_611 zm_551 zm_608) rfl rfl rfl (by decide +kernel) ⟨Nat.le_trans (show 5 + 1 ≤ fS + 111 by omega) hR1, Nat.le_trans (show 8 + (2 + 11) + (107) ≤ lS + 2375 by omega) hR2⟩) rfl rfl rfl hl.1 (Nat.le_of_ble_eq_true rfl) d_M_statement_50 ⟨Nat.zero_le _, Nat.zero_le _⟩) (fun H locs hw => ?_)
    refine lv_if_eq hx hb d_M_statement_53 (tgt := 73) rfl (fun hc => ?_) (fun hc => ?_)
    · have hf := (if_pos hc).symm.trans hf
      exact K73 σ117 H locs ls hf hw (lv_sub hl [] rfl)
    · have hf := (if_neg hc).symm.trans hf
      refine lv_aload_n hx hb d_M_statement_56 rfl (lv_at hl 0 rfl) ?_
      refine lv_iload_n hx hb d_M_statement_57 rfl (lv_at hl 1 rfl) ?_
      obtain ⟨r121, σ120, hc122, hf⟩ := zq_cs hf
      refine zr_ci hw (zr_runV (rest := []) (ci := 8) (o := 1) G hw [.int x1] (zc_M_whole hJ hc122) (cwV 1 hts (zs_gV zm_711 zm_712 zm_713 zm_551 zm_710) rfl rfl rfl (by decide +kernel) ⟨Nat.le_trans (show 110 + 1 ≤ fS + 111 by omega) hR1, Nat.le_trans (show 8 + (2 + 11) + (2354) ≤ lS + 2375 by omega) hR2⟩) rfl rfl rfl hl.1 (Nat.le_of_ble_eq_true rfl) d_M_statement_58 ⟨Nat.zero_le _, Nat.zero_le _⟩) (fun H locs hw => ?_)
      refine lv_if_eq hx hb d_M_statement_61 (tgt := 73) rfl (fun hc => ?_) (fun hc => ?_)
      · have hf := (if_pos hc).symm.trans hf
        exact K73 σ120 H locs ls hf hw (lv_sub hl [] rfl)
      · have hf := (if_neg hc).symm.trans hf
        refine lv_aload_n hx hb d_M_statement_64 rfl (lv_at hl 0 rfl) ?_
        refine va_ldcS (own := "ScheduleCheckModel") (tx := ")") (q := ad 1320) hx hb hown ((G.2.2.2.2 rfl).2.2.1 20 (by decide)) d_M_statement_65 ?_
        obtain ⟨r124, σ123, hc125, hf⟩ := zq_cs hf
        refine zr_ci hw (zr_runV (rest := []) (ci := 8) (o := 1) G hw [.ref (ad 1320)] (zc_M_take hJ hc125) (cwV 1 hts (zs_gV zm_609 zm_610 zm_611 zm_551 zm_608) rfl rfl rfl (by decide +kernel) ⟨Nat.le_trans (show 5 + 1 ≤ fS + 111 by omega) hR1, Nat.le_trans (show 8 + (2 + 11) + (107) ≤ lS + 2375 by omega) hR2⟩) rfl rfl rfl hl.1 (Nat.le_of_ble_eq_true rfl) d_M_statement_67 ⟨Nat.zero_le _, Nat.zero_le _⟩) (fun H locs hw => ?_)
        refine lv_if_ne hx hb d_M_statement_70 (tgt := 75) rfl (fun hc => ?_) (fun hc => ?_)
        · have hf := (if_neg hc).symm.trans hf
          refine lv_aload_n hx hb d_M_statement_75 rfl (lv_at hl 0 rfl) ?_
          refine zr_get (ci := 8) G hw 1 16 zi_8 rfl rfl rfl (by decide) zm_586 (fun _ h => h) (v := .int (zs_i σ123 1 16)) rfl d_M_statement_76 ?_
          refine lv_topi (fun v126 e_v126 => ?_)
          have hf := zq_vs e_v126 hf
          refine lv_istore_n hx hb d_M_statement_79 rfl hl (by decide) rfl (fun ls hl => ?_)
          have hl : lv_has ls 5 [(3, .int v126), (0, .ref (ad 1)), (1, .int x1), (2, .int x2)] := hl
          refine lv_aload_n hx hb d_M_statement_80 rfl (lv_at hl 1 rfl) ?_
          refine zr_get (ci := 8) G hw 1 15 zi_8 rfl rfl rfl (by decide) zm_587 (fun _ h => h) (v := .ref (ad 57)) rfl d_M_statement_81 ?_
          refine lv_aload_n hx hb d_M_statement_84 rfl (lv_at hl 1 rfl) ?_
          refine lv_dup hx hb d_M_statement_85 rfl ?_
          refine zr_get (ci := 8) G hw 1 16 zi_8 rfl rfl rfl (by decide) zm_586 (fun _ h => h) (v := .int (zs_i σ123 1 16)) rfl d_M_statement_86 ?_
          refine lv_dup_x1 hx hb d_M_statement_89 rfl rfl ?_
          refine lv_iconst (v := 1) hx hb d_M_statement_90 (by decide) ?_
          refine lv_iadd hx hb d_M_statement_91 ?_
          obtain ⟨σ127, e_σ127, hf⟩ := zq_ss hf
          refine zr_puti (ci := 8) G hw 1 16 zi_8 t_zd8 t_zd8_ok n_zd8 rfl rfl rfl (by decide) rfl zm_586 (fun _ h => h) rfl (x := ((zs_i σ123 1 16) + 1)) (t_zd8_ok 16 (by decide)) rfl rfl d_M_statement_92 (fun H locs hw => ?_)
          rw [← e_σ127] at hw
          refine lv_iconst (v := 3) hx hb d_M_statement_95 (by decide) ?_
          refine lv_iload_n hx hb d_M_statement_96 rfl (lv_at hl 2 rfl) ?_
          refine lv_imul hx hb d_M_statement_97 ?_
          refine lv_iconst (v := 1) hx hb d_M_statement_98 (by decide) ?_
          refine lv_iadd hx hb d_M_statement_99 ?_
          obtain ⟨hi128, hf⟩ := zq_gs hf
          obtain ⟨σ129, e_σ129, hf⟩ := zq_ss hf
          refine zr_iast G hw 57 rfl rfl  hi128  d_M_statement_100 (fun H locs hw => ?_)
          rw [← e_σ129] at hw
          refine lv_aload_n hx hb d_M_statement_101 rfl (lv_at hl 1 rfl) ?_
          refine lv_iload_n hx hb d_M_statement_102 rfl (lv_at hl 3 rfl) ?_
          obtain ⟨r131, σ130, hc132, hf⟩ := zq_cs hf
          refine zr_ci hw (zr_runV (rest := []) (ci := 8) (o := 1) G hw [.int x2] (zc_M_block hS hJ hc132) (cwV 1 hts (zs_gV zm_715 zm_716 zm_717 zm_551 zm_714) rfl rfl rfl (by decide +kernel) ⟨Nat.le_trans (show fS + 5 + 1 ≤ fS + 111 by omega) hR1, Nat.le_trans (show 8 + (3 + 11) + (lS + 107) ≤ lS + 2375 by omega) hR2⟩) rfl rfl rfl hl.1 (Nat.le_of_ble_eq_true rfl) d_M_statement_103 ⟨Nat.zero_le _, Nat.zero_le _⟩) (fun H locs hw => ?_)
          refine lv_if_ne hx hb d_M_statement_106 (tgt := 111) rfl (fun hc => ?_) (fun hc => ?_)
          · have hf := (if_neg hc).symm.trans hf
            refine lv_aload_n hx hb d_M_statement_111 rfl (lv_at hl 1 rfl) ?_
            obtain ⟨q133, e_q133, h_q133, hf⟩ := zq_qs hf
            refine zr_get (ci := 8) G hw 1 12 zi_8 rfl rfl rfl (by decide) zm_583 (fun _ h => h) (v := .ref (ad q133)) (zs_fr rfl e_q133 h_q133) d_M_statement_112 ?_
            obtain ⟨hs134, hf⟩ := zq_gs hf
            have hs134 := zq_ks hs134
            obtain ⟨q135, e_q135, h_q135, hf⟩ := zq_qs hf
            refine zr_get (ci := 9) G hw q133 7 zi_9 hs134 rfl rfl (by decide) zm_625 (fun _ h => h) (v := .ref (ad q135)) (zs_fs rfl e_q135 h_q135) d_M_statement_115 ?_
            refine lv_iload_n hx hb d_M_statement_118 rfl (lv_at hl 2 rfl) ?_
            obtain ⟨hs136, hf⟩ := zq_gs hf
            have hs136 := zq_ks hs136
            obtain ⟨hi137, hf⟩ := zq_gs hf
            refine zr_iald G hw q135 hs136 rfl hi137 d_M_statement_119 ?_
            refine lv_bipush (v := 8) hx hb d_M_statement_120 (by decide) ?_
            refine lv_icmp_ne hx hb d_M_statement_122 (tgt := 131) rfl (fun hc => ?_) (fun hc => ?_)
            · have hf := (if_neg hc).symm.trans hf
              exact K131 x1 x2 σ130 H locs ls hf hw (lv_sub hl [1, 2, 3] rfl)
            · have hf := (if_pos hc).symm.trans hf
              refine lv_aload_n hx hb d_M_statement_125 rfl (lv_at hl 1 rfl) ?_
              refine lv_iload_n hx hb d_M_statement_126 rfl (lv_at hl 0 rfl) ?_
              refine lv_iload_n hx hb d_M_statement_127 rfl (lv_at hl 2 rfl) ?_
              obtain ⟨σ138, hc140, hf⟩ := zq_ds hf
              refine zr_cv hw (zr_runV (rest := []) (ci := 8) (o := 1) G hw [.int v126, .int x1] (zc_M_lead hJ hc140) (cwV 2 hts (zs_gV zm_719 zm_720 zm_721 zm_551 zm_718) rfl rfl rfl (by decide +kernel) ⟨Nat.le_trans (show 0 + 1 ≤ fS + 111 by omega) hR1, Nat.le_trans (show 8 + (3 + 11) + (0) ≤ lS + 2375 by omega) hR2⟩) rfl rfl rfl hl.1 (Nat.le_of_ble_eq_true rfl) d_M_statement_128 ⟨Nat.zero_le _, Nat.zero_le _⟩) (fun H locs hw => ?_)
              exact K131 x1 x2 σ138 H locs ls hf hw (lv_sub hl [1, 2, 3] rfl)
          · have hf := (if_pos hc).symm.trans hf
            refine lv_iconst (v := 0) hx hb d_M_statement_109 (by decide) ?_
            exact zr_zret G hw hr hlocks (by decide) hf hQ d_M_statement_110
        · have hf := (if_pos hc).symm.trans hf
          exact K73 σ123 H locs ls hf hw (lv_sub hl [] rfl)
  have K18 : ∀ (x1 : Int32) (x2 : Int32) (σ : zs_S) (H : Heap) (locs : List Loc) (ls : Array Slot), zf_M_statement_18 kS F x1 x2 σ = some q → zs_I 1 D cA ad A s σ H locs → lv_has ls 5 [(0, .ref (ad 1)), (1, .int x1), (2, .int x2)] → W p l e RR s m args below meth c H locs 0 0 QQ (F0 m 18 ls []) := by
    intro  x1 x2 σ H locs ls hf hw hl
    unfold zf_M_statement_18 at hf
    refine lv_aload_n hx hb d_M_statement_18 rfl (lv_at hl 0 rfl) ?_
    obtain ⟨q73, e_q73, h_q73, hf⟩ := zq_qs hf
    refine zr_get (ci := 8) G hw 1 12 zi_8 rfl rfl rfl (by decide) zm_583 (fun _ h => h) (v := .ref (ad q73)) (zs_fr rfl e_q73 h_q73) d_M_statement_19 ?_
    obtain ⟨hs74, hf⟩ := zq_gs hf
    have hs74 := zq_ks hs74
    obtain ⟨q75, e_q75, h_q75, hf⟩ := zq_qs hf
    refine zr_get (ci := 9) G hw q73 7 zi_9 hs74 rfl rfl (by decide) zm_625 (fun _ h => h) (v := .ref (ad q75)) (zs_fs rfl e_q75 h_q75) d_M_statement_22 ?_
    refine lv_iload_n hx hb d_M_statement_25 rfl (lv_at hl 1 rfl) ?_
    refine lv_aload_n hx hb d_M_statement_26 rfl (lv_at hl 0 rfl) ?_
    refine va_ldcS (own := "ScheduleCheckModel") (tx := "if") (q := ad 1310) hx hb hown ((G.2.2.2.2 rfl).2.2.1 10 (by decide)) d_M_statement_27 ?_
    obtain ⟨r77, σ76, hc78, hf⟩ := zq_cs hf
    refine zr_ci hw (zr_runV (rest := [.int x1, .ref (ad q75)]) (ci := 8) (o := 1) G hw [.ref (ad 1310)] (zc_M_is hJ hc78) (cwV 1 hts (zs_gV zm_568 zm_569 zm_570 zm_551 zm_567) rfl rfl rfl (by decide +kernel) ⟨Nat.le_trans (show 4 + 1 ≤ fS + 111 by omega) hR1, Nat.le_trans (show 8 + (3 + 11) + (85) ≤ lS + 2375 by omega) hR2⟩) rfl rfl rfl hl.1 (Nat.le_of_ble_eq_true rfl) d_M_statement_29 ⟨Nat.zero_le _, Nat.zero_le _⟩) (fun H locs hw => ?_)
    refine lv_if_eq hx hb d_M_statement_32 (tgt := 40) rfl (fun hc => ?_) (fun hc => ?_)
    · have hf := (if_pos hc).symm.trans hf
      refine lv_bipush (v := 8) hx hb d_M_statement_40 (by decide) ?_
      exact K42 x1 x2 8 x1 q75 σ76 H locs ls hf hw (lv_sub hl [0, 1, 2] rfl)
    · have hf := (if_neg hc).symm.trans hf
      refine lv_bipush (v := 7) hx hb d_M_statement_35 (by decide) ?_
      refine lv_goto hx hb d_M_statement_37 (tgt := 42) rfl ?_
      exact K42 x1 x2 7 x1 q75 σ76 H locs ls hf hw (lv_sub hl [0, 1, 2] rfl)
  unfold zf_M_statement at hf
  refine lv_aload_n hx hb d_M_statement_0 rfl (lv_at hl 0 rfl) ?_
  refine va_ldcS (own := "ScheduleCheckModel") (tx := "if") (q := ad 1310) hx hb hown ((G.2.2.2.2 rfl).2.2.1 10 (by decide)) d_M_statement_1 ?_
  obtain ⟨r2, σ1, hc3, hf⟩ := zq_cs hf
  refine zr_ci hw (zr_runV (rest := []) (ci := 8) (o := 1) G hw [.ref (ad 1310)] (zc_M_is hJ hc3) (cwV 1 hts (zs_gV zm_568 zm_569 zm_570 zm_551 zm_567) rfl rfl rfl (by decide +kernel) ⟨Nat.le_trans (show 4 + 1 ≤ fS + 111 by omega) hR1, Nat.le_trans (show 8 + (3 + 11) + (85) ≤ lS + 2375 by omega) hR2⟩) rfl rfl rfl hl.1 (Nat.le_of_ble_eq_true rfl) d_M_statement_3 ⟨Nat.zero_le _, Nat.zero_le _⟩) (fun H locs hw => ?_)
  refine lv_if_ne hx hb d_M_statement_6 (tgt := 18) rfl (fun hc => ?_) (fun hc => ?_)
  · have hf := (if_neg hc).symm.trans hf
    exact K18 x1 x2 σ1 H locs ls hf hw (lv_sub hl [0, 1, 2] rfl)
  · have hf := (if_pos hc).symm.trans hf
    refine lv_aload_n hx hb d_M_statement_9 rfl (lv_at hl 0 rfl) ?_
    refine va_ldcS (own := "ScheduleCheckModel") (tx := "while") (q := ad 1312) hx hb hown ((G.2.2.2.2 rfl).2.2.1 12 (by decide)) d_M_statement_10 ?_
    obtain ⟨r5, σ4, hc6, hf⟩ := zq_cs hf
    refine zr_ci hw (zr_runV (rest := []) (ci := 8) (o := 1) G hw [.ref (ad 1312)] (zc_M_is hJ hc6) (cwV 1 hts (zs_gV zm_568 zm_569 zm_570 zm_551 zm_567) rfl rfl rfl (by decide +kernel) ⟨Nat.le_trans (show 4 + 1 ≤ fS + 111 by omega) hR1, Nat.le_trans (show 8 + (3 + 11) + (85) ≤ lS + 2375 by omega) hR2⟩) rfl rfl rfl hl.1 (Nat.le_of_ble_eq_true rfl) d_M_statement_12 ⟨Nat.zero_le _, Nat.zero_le _⟩) (fun H locs hw => ?_)
    refine lv_if_eq hx hb d_M_statement_15 (tgt := 208) rfl (fun hc => ?_) (fun hc => ?_)
    · have hf := (if_pos hc).symm.trans hf
      refine lv_aload_n hx hb d_M_statement_208 rfl (lv_at hl 0 rfl) ?_
      refine va_ldcS (own := "ScheduleCheckModel") (tx := "stop") (q := ad 1313) hx hb hown ((G.2.2.2.2 rfl).2.2.1 13 (by decide)) d_M_statement_209 ?_
      obtain ⟨r8, σ7, hc9, hf⟩ := zq_cs hf
      refine zr_ci hw (zr_runV (rest := []) (ci := 8) (o := 1) G hw [.ref (ad 1313)] (zc_M_is hJ hc9) (cwV 1 hts (zs_gV zm_568 zm_569 zm_570 zm_551 zm_567) rfl rfl rfl (by decide +kernel) ⟨Nat.le_trans (show 4 + 1 ≤ fS + 111 by omega) hR1, Nat.le_trans (show 8 + (3 + 11) + (85) ≤ lS + 2375 by omega) hR2⟩) rfl rfl rfl hl.1 (Nat.le_of_ble_eq_true rfl) d_M_statement_211 ⟨Nat.zero_le _, Nat.zero_le _⟩) (fun H locs hw => ?_)
      refine lv_if_eq hx hb d_M_statement_214 (tgt := 239) rfl (fun hc => ?_) (fun hc => ?_)
      · have hf := (if_pos hc).symm.trans hf
        refine lv_aload_n hx hb d_M_statement_239 rfl (lv_at hl 0 rfl) ?_
        refine zr_get (ci := 8) G hw 1 15 zi_8 rfl rfl rfl (by decide) zm_587 (fun _ h => h) (v := .ref (ad 57)) rfl d_M_statement_240 ?_
        refine lv_aload_n hx hb d_M_statement_243 rfl (lv_at hl 0 rfl) ?_
        refine lv_dup hx hb d_M_statement_244 rfl ?_
        refine zr_get (ci := 8) G hw 1 16 zi_8 rfl rfl rfl (by decide) zm_586 (fun _ h => h) (v := .int (zs_i σ7 1 16)) rfl d_M_statement_245 ?_
        refine lv_dup_x1 hx hb d_M_statement_248 rfl rfl ?_
        refine lv_iconst (v := 1) hx hb d_M_statement_249 (by decide) ?_
        refine lv_iadd hx hb d_M_statement_250 ?_
        obtain ⟨σ10, e_σ10, hf⟩ := zq_ss hf
        refine zr_puti (ci := 8) G hw 1 16 zi_8 t_zd8 t_zd8_ok n_zd8 rfl rfl rfl (by decide) rfl zm_586 (fun _ h => h) rfl (x := ((zs_i σ7 1 16) + 1)) (t_zd8_ok 16 (by decide)) rfl rfl d_M_statement_251 (fun H locs hw => ?_)
        rw [← e_σ10] at hw
        refine lv_iconst (v := 3) hx hb d_M_statement_254 (by decide) ?_
        refine lv_iload_n hx hb d_M_statement_255 rfl (lv_at hl 1 rfl) ?_
        refine lv_imul hx hb d_M_statement_256 ?_
        obtain ⟨hi11, hf⟩ := zq_gs hf
        obtain ⟨σ12, e_σ12, hf⟩ := zq_ss hf
        refine zr_iast G hw 57 rfl rfl  hi11  d_M_statement_257 (fun H locs hw => ?_)
        rw [← e_σ12] at hw
        refine lv_aload_n hx hb d_M_statement_258 rfl (lv_at hl 0 rfl) ?_
        refine va_ldcS (own := "ScheduleCheckModel") (tx := "assert") (q := ad 1309) hx hb hown ((G.2.2.2.2 rfl).2.2.1 9 (by decide)) d_M_statement_259 ?_
        obtain ⟨r14, σ13, hc15, hf⟩ := zq_cs hf
        refine zr_ci hw (zr_runV (rest := []) (ci := 8) (o := 1) G hw [.ref (ad 1309)] (zc_M_is hJ hc15) (cwV 1 hts (zs_gV zm_568 zm_569 zm_570 zm_551 zm_567) rfl rfl rfl (by decide +kernel) ⟨Nat.le_trans (show 4 + 1 ≤ fS + 111 by omega) hR1, Nat.le_trans (show 8 + (3 + 11) + (85) ≤ lS + 2375 by omega) hR2⟩) rfl rfl rfl hl.1 (Nat.le_of_ble_eq_true rfl) d_M_statement_261 ⟨Nat.zero_le _, Nat.zero_le _⟩) (fun H locs hw => ?_)
        refine lv_if_eq hx hb d_M_statement_264 (tgt := 305) rfl (fun hc => ?_) (fun hc => ?_)
        · have hf := (if_pos hc).symm.trans hf
          refine lv_aload_n hx hb d_M_statement_305 rfl (lv_at hl 0 rfl) ?_
          obtain ⟨r17, σ16, hc18, hf⟩ := zq_cs hf
          refine zr_ci hw (zr_runV (rest := []) (ci := 8) (o := 1) G hw [] (zc_M_isName hJ hc18) (cwV 0 hts (zs_gV zm_593 zm_594 zm_595 zm_551 zm_592) rfl rfl rfl (by decide +kernel) ⟨Nat.le_trans (show 5 + 1 ≤ fS + 111 by omega) hR1, Nat.le_trans (show 8 + (2 + 11) + (107) ≤ lS + 2375 by omega) hR2⟩) rfl rfl rfl hl.1 (Nat.le_of_ble_eq_true rfl) d_M_statement_306 ⟨Nat.zero_le _, Nat.zero_le _⟩) (fun H locs hw => ?_)
          refine lv_if_eq hx hb d_M_statement_309 (tgt := 448) rfl (fun hc => ?_) (fun hc => ?_)
          · have hf := (if_pos hc).symm.trans hf
            refine lv_aload_n hx hb d_M_statement_448 rfl (lv_at hl 0 rfl) ?_
            obtain ⟨q19, e_q19, h_q19, hf⟩ := zq_qs hf
            refine zr_get (ci := 8) G hw 1 12 zi_8 rfl rfl rfl (by decide) zm_583 (fun _ h => h) (v := .ref (ad q19)) (zs_fr rfl e_q19 h_q19) d_M_statement_449 ?_
            obtain ⟨hs20, hf⟩ := zq_gs hf
            have hs20 := zq_ks hs20
            obtain ⟨q21, e_q21, h_q21, hf⟩ := zq_qs hf
            refine zr_get (ci := 9) G hw q19 7 zi_9 hs20 rfl rfl (by decide) zm_625 (fun _ h => h) (v := .ref (ad q21)) (zs_fs rfl e_q21 h_q21) d_M_statement_452 ?_
            refine lv_iload_n hx hb d_M_statement_455 rfl (lv_at hl 1 rfl) ?_
            refine lv_aload_n hx hb d_M_statement_456 rfl (lv_at hl 0 rfl) ?_
            refine va_ldcS (own := "ScheduleCheckModel") (tx := "take") (q := ad 1304) hx hb hown ((G.2.2.2.2 rfl).2.2.1 4 (by decide)) d_M_statement_457 ?_
            obtain ⟨r23, σ22, hc24, hf⟩ := zq_cs hf
            refine zr_ci hw (zr_runV (rest := [.int x1, .ref (ad q21)]) (ci := 8) (o := 1) G hw [.ref (ad 1304)] (zc_M_is hJ hc24) (cwV 1 hts (zs_gV zm_568 zm_569 zm_570 zm_551 zm_567) rfl rfl rfl (by decide +kernel) ⟨Nat.le_trans (show 4 + 1 ≤ fS + 111 by omega) hR1, Nat.le_trans (show 8 + (3 + 11) + (85) ≤ lS + 2375 by omega) hR2⟩) rfl rfl rfl hl.1 (Nat.le_of_ble_eq_true rfl) d_M_statement_459 ⟨Nat.zero_le _, Nat.zero_le _⟩) (fun H locs hw => ?_)
            refine lv_if_eq hx hb d_M_statement_462 (tgt := 469) rfl (fun hc => ?_) (fun hc => ?_)
            · have hf := (if_pos hc).symm.trans hf
              refine lv_aload_n hx hb d_M_statement_469 rfl (lv_at hl 0 rfl) ?_
              refine va_ldcS (own := "ScheduleCheckModel") (tx := "give") (q := ad 1305) hx hb hown ((G.2.2.2.2 rfl).2.2.1 5 (by decide)) d_M_statement_470 ?_
              obtain ⟨r26, σ25, hc27, hf⟩ := zq_cs hf
              refine zr_ci hw (zr_runV (rest := [.int x1, .ref (ad q21)]) (ci := 8) (o := 1) G hw [.ref (ad 1305)] (zc_M_is hJ hc27) (cwV 1 hts (zs_gV zm_568 zm_569 zm_570 zm_551 zm_567) rfl rfl rfl (by decide +kernel) ⟨Nat.le_trans (show 4 + 1 ≤ fS + 111 by omega) hR1, Nat.le_trans (show 8 + (3 + 11) + (85) ≤ lS + 2375 by omega) hR2⟩) rfl rfl rfl hl.1 (Nat.le_of_ble_eq_true rfl) d_M_statement_472 ⟨Nat.zero_le _, Nat.zero_le _⟩) (fun H locs hw => ?_)
              refine lv_if_eq hx hb d_M_statement_475 (tgt := 482) rfl (fun hc => ?_) (fun hc => ?_)
              · have hf := (if_pos hc).symm.trans hf
                refine lv_aload_n hx hb d_M_statement_482 rfl (lv_at hl 0 rfl) ?_
                refine va_ldcS (own := "ScheduleCheckModel") (tx := "wait") (q := ad 1306) hx hb hown ((G.2.2.2.2 rfl).2.2.1 6 (by decide)) d_M_statement_483 ?_
                obtain ⟨r29, σ28, hc30, hf⟩ := zq_cs hf
                refine zr_ci hw (zr_runV (rest := [.int x1, .ref (ad q21)]) (ci := 8) (o := 1) G hw [.ref (ad 1306)] (zc_M_is hJ hc30) (cwV 1 hts (zs_gV zm_568 zm_569 zm_570 zm_551 zm_567) rfl rfl rfl (by decide +kernel) ⟨Nat.le_trans (show 4 + 1 ≤ fS + 111 by omega) hR1, Nat.le_trans (show 8 + (3 + 11) + (85) ≤ lS + 2375 by omega) hR2⟩) rfl rfl rfl hl.1 (Nat.le_of_ble_eq_true rfl) d_M_statement_485 ⟨Nat.zero_le _, Nat.zero_le _⟩) (fun H locs hw => ?_)
                refine lv_if_eq hx hb d_M_statement_488 (tgt := 495) rfl (fun hc => ?_) (fun hc => ?_)
                · have hf := (if_pos hc).symm.trans hf
                  refine lv_iconst (v := 4) hx hb d_M_statement_495 (by decide) ?_
                  exact K496 x1 4 x1 q21 σ28 H locs ls hf hw (lv_sub hl [0, 1] rfl)
                · have hf := (if_neg hc).symm.trans hf
                  refine lv_iconst (v := 3) hx hb d_M_statement_491 (by decide) ?_
                  refine lv_goto hx hb d_M_statement_492 (tgt := 496) rfl ?_
                  exact K496 x1 3 x1 q21 σ28 H locs ls hf hw (lv_sub hl [0, 1] rfl)
              · have hf := (if_neg hc).symm.trans hf
                refine lv_iconst (v := 2) hx hb d_M_statement_478 (by decide) ?_
                refine lv_goto hx hb d_M_statement_479 (tgt := 496) rfl ?_
                exact K496 x1 2 x1 q21 σ25 H locs ls hf hw (lv_sub hl [0, 1] rfl)
            · have hf := (if_neg hc).symm.trans hf
              refine lv_iconst (v := 1) hx hb d_M_statement_465 (by decide) ?_
              refine lv_goto hx hb d_M_statement_466 (tgt := 496) rfl ?_
              exact K496 x1 1 x1 q21 σ22 H locs ls hf hw (lv_sub hl [0, 1] rfl)
          · have hf := (if_neg hc).symm.trans hf
            refine lv_aload_n hx hb d_M_statement_312 rfl (lv_at hl 0 rfl) ?_
            obtain ⟨q31, e_q31, h_q31, hf⟩ := zq_qs hf
            refine zr_get (ci := 8) G hw 1 13 zi_8 rfl rfl rfl (by decide) zm_701 (fun _ h => h) (v := .ref (ad q31)) (zs_fr rfl e_q31 h_q31) d_M_statement_313 ?_
            refine lv_aload_n hx hb d_M_statement_316 rfl (lv_at hl 0 rfl) ?_
            refine zr_get (ci := 8) G hw 1 0 zi_8 rfl rfl rfl (by decide) zm_547 (fun _ h => h) (v := .ref (ad 2)) rfl d_M_statement_317 ?_
            refine lv_aload_n hx hb d_M_statement_320 rfl (lv_at hl 0 rfl) ?_
            refine zr_get (ci := 8) G hw 1 8 zi_8 rfl rfl rfl (by decide) zm_544 (fun _ h => h) (v := .int (zs_i σ16 1 8)) rfl d_M_statement_321 ?_
            refine lv_aload_n hx hb d_M_statement_324 rfl (lv_at hl 0 rfl) ?_
            refine zr_get (ci := 8) G hw 1 9 zi_8 rfl rfl rfl (by decide) zm_558 (fun _ h => h) (v := .int (zs_i σ16 1 9)) rfl d_M_statement_325 ?_
            refine lv_aload_n hx hb d_M_statement_328 rfl (lv_at hl 0 rfl) ?_
            refine zr_get (ci := 8) G hw 1 8 zi_8 rfl rfl rfl (by decide) zm_544 (fun _ h => h) (v := .int (zs_i σ16 1 8)) rfl d_M_statement_329 ?_
            refine lv_isub hx hb d_M_statement_332 ?_
            obtain ⟨hs35, hf⟩ := zq_gs hf
            have hs35 := zq_ks hs35
            obtain ⟨r33, σ32, hc34, hf⟩ := zq_cs hf
            refine zr_ci hw (zr_runV (rest := []) (ci := 10) (o := q31) G hw [.ref (ad 2), .int (zs_i σ16 1 8), .int ((zs_i σ16 1 9) - (zs_i σ16 1 8))] (zc_MN_find hJ hc34) (cwV 3 hts (zs_gV zm_599 zm_600 zm_601 zm_602 zm_598) rfl rfl rfl (by decide +kernel) ⟨Nat.le_trans (show 0 + 1 ≤ fS + 111 by omega) hR1, Nat.le_trans (show 8 + (7 + 11) + (0) ≤ lS + 2375 by omega) hR2⟩) hs35 rfl rfl hl.1 (Nat.le_of_ble_eq_true rfl) d_M_statement_333 ⟨Nat.zero_le _, Nat.zero_le _⟩) (fun H locs hw => ?_)
            refine lv_istore_n hx hb d_M_statement_336 rfl hl (by decide) rfl (fun ls hl => ?_)
            have hl : lv_has ls 5 [(3, .int r33), (0, .ref (ad 1)), (1, .int x1), (2, .int x2)] := hl
            refine lv_aload_n hx hb d_M_statement_337 rfl (lv_at hl 1 rfl) ?_
            obtain ⟨q36, e_q36, h_q36, hf⟩ := zq_qs hf
            refine zr_get (ci := 8) G hw 1 12 zi_8 rfl rfl rfl (by decide) zm_583 (fun _ h => h) (v := .ref (ad q36)) (zs_fr rfl e_q36 h_q36) d_M_statement_338 ?_
            obtain ⟨hs37, hf⟩ := zq_gs hf
            have hs37 := zq_ks hs37
            obtain ⟨q38, e_q38, h_q38, hf⟩ := zq_qs hf
            refine zr_get (ci := 9) G hw q36 0 zi_9 hs37 rfl rfl (by decide) zm_591 (fun _ h => h) (v := .ref (ad q38)) (zs_fs rfl e_q38 h_q38) d_M_statement_341 ?_
            refine lv_aload_n hx hb d_M_statement_344 rfl (lv_at hl 1 rfl) ?_
            refine zr_get (ci := 8) G hw 1 0 zi_8 rfl rfl rfl (by decide) zm_547 (fun _ h => h) (v := .ref (ad 2)) rfl d_M_statement_345 ?_
            refine lv_aload_n hx hb d_M_statement_348 rfl (lv_at hl 1 rfl) ?_
            refine zr_get (ci := 8) G hw 1 8 zi_8 rfl rfl rfl (by decide) zm_544 (fun _ h => h) (v := .int (zs_i σ32 1 8)) rfl d_M_statement_349 ?_
            refine lv_aload_n hx hb d_M_statement_352 rfl (lv_at hl 1 rfl) ?_
            refine zr_get (ci := 8) G hw 1 9 zi_8 rfl rfl rfl (by decide) zm_558 (fun _ h => h) (v := .int (zs_i σ32 1 9)) rfl d_M_statement_353 ?_
            refine lv_aload_n hx hb d_M_statement_356 rfl (lv_at hl 1 rfl) ?_
            refine zr_get (ci := 8) G hw 1 8 zi_8 rfl rfl rfl (by decide) zm_544 (fun _ h => h) (v := .int (zs_i σ32 1 8)) rfl d_M_statement_357 ?_
            refine lv_isub hx hb d_M_statement_360 ?_
            obtain ⟨hs42, hf⟩ := zq_gs hf
            have hs42 := zq_ks hs42
            obtain ⟨r40, σ39, hc41, hf⟩ := zq_cs hf
            refine zr_ci hw (zr_runV (rest := []) (ci := 10) (o := q38) G hw [.ref (ad 2), .int (zs_i σ32 1 8), .int ((zs_i σ32 1 9) - (zs_i σ32 1 8))] (zc_MN_find hJ hc41) (cwV 3 hts (zs_gV zm_599 zm_600 zm_601 zm_602 zm_598) rfl rfl rfl (by decide +kernel) ⟨Nat.le_trans (show 0 + 1 ≤ fS + 111 by omega) hR1, Nat.le_trans (show 8 + (7 + 11) + (0) ≤ lS + 2375 by omega) hR2⟩) hs42 rfl rfl hl.1 (Nat.le_of_ble_eq_true rfl) d_M_statement_361 ⟨Nat.zero_le _, Nat.zero_le _⟩) (fun H locs hw => ?_)
            refine lv_istore hx hb d_M_statement_364 hl (by decide) rfl (fun ls hl => ?_)
            have hl : lv_has ls 5 [(4, .int r40), (3, .int r33), (0, .ref (ad 1)), (1, .int x1), (2, .int x2)] := hl
            refine lv_iload_n hx hb d_M_statement_366 rfl (lv_at hl 1 rfl) ?_
            refine lv_if_ge hx hb d_M_statement_367 (tgt := 380) rfl (fun hc => ?_) (fun hc => ?_)
            · have hf := (if_pos hc).symm.trans hf
              exact K380 x1 r33 r40 σ39 H locs ls hf hw (lv_sub hl [2, 3, 1, 0] rfl)
            · have hf := (if_neg hc).symm.trans hf
              refine lv_iload hx hb d_M_statement_370 (lv_at hl 0 rfl) ?_
              refine lv_if_ge hx hb d_M_statement_372 (tgt := 380) rfl (fun hc => ?_) (fun hc => ?_)
              · have hf := (if_pos hc).symm.trans hf
                exact K380 x1 r33 r40 σ39 H locs ls hf hw (lv_sub hl [2, 3, 1, 0] rfl)
              · have hf := (if_neg hc).symm.trans hf
                refine lv_aload_n hx hb d_M_statement_375 rfl (lv_at hl 2 rfl) ?_
                obtain ⟨r44, σ43, hc45, hf⟩ := zq_cs hf
                refine zr_ci hw (zr_runV (rest := []) (ci := 8) (o := 1) G hw [] (zc_M_bad hJ hc45) (cwV 0 hts (zs_gV zm_576 zm_577 zm_578 zm_551 zm_575) rfl rfl rfl (by decide +kernel) ⟨Nat.le_trans (show 0 + 1 ≤ fS + 111 by omega) hR1, Nat.le_trans (show 8 + (1 + 11) + (0) ≤ lS + 2375 by omega) hR2⟩) rfl rfl rfl hl.1 (Nat.le_of_ble_eq_true rfl) d_M_statement_376 ⟨Nat.zero_le _, Nat.zero_le _⟩) (fun H locs hw => ?_)
                obtain ⟨hz, hf⟩ := zq_gs hf
                exact zr_zret G hw hr hlocks hz hf hQ d_M_statement_379
        · have hf := (if_neg hc).symm.trans hf
          refine lv_aload_n hx hb d_M_statement_267 rfl (lv_at hl 0 rfl) ?_
          obtain ⟨q46, e_q46, h_q46, hf⟩ := zq_qs hf
          refine zr_get (ci := 8) G hw 1 12 zi_8 rfl rfl rfl (by decide) zm_583 (fun _ h => h) (v := .ref (ad q46)) (zs_fr rfl e_q46 h_q46) d_M_statement_268 ?_
          obtain ⟨hs47, hf⟩ := zq_gs hf
          have hs47 := zq_ks hs47
          obtain ⟨q48, e_q48, h_q48, hf⟩ := zq_qs hf
          refine zr_get (ci := 9) G hw q46 7 zi_9 hs47 rfl rfl (by decide) zm_625 (fun _ h => h) (v := .ref (ad q48)) (zs_fs rfl e_q48 h_q48) d_M_statement_271 ?_
          refine lv_iload_n hx hb d_M_statement_274 rfl (lv_at hl 1 rfl) ?_
          refine lv_bipush (v := 6) hx hb d_M_statement_275 (by decide) ?_
          obtain ⟨hs49, hf⟩ := zq_gs hf
          have hs49 := zq_ks hs49
          obtain ⟨hi50, hf⟩ := zq_gs hf
          obtain ⟨σ51, e_σ51, hf⟩ := zq_ss hf
          refine zr_iast G hw q48 hs49 rfl  hi50  d_M_statement_277 (fun H locs hw => ?_)
          rw [← e_σ51] at hw
          refine lv_aload_n hx hb d_M_statement_278 rfl (lv_at hl 0 rfl) ?_
          obtain ⟨σ52, hc54, hf⟩ := zq_ds hf
          refine zr_cv hw (zr_runV (rest := []) (ci := 8) (o := 1) G hw [] (zc_M_step hJ hc54) (cwV 0 hts (zs_gV zm_572 zm_573 zm_574 zm_551 zm_571) rfl rfl rfl (by decide +kernel) ⟨Nat.le_trans (show 1 + 1 ≤ fS + 111 by omega) hR1, Nat.le_trans (show 8 + (5 + 11) + (60) ≤ lS + 2375 by omega) hR2⟩) rfl rfl rfl hl.1 (Nat.le_of_ble_eq_true rfl) d_M_statement_279 ⟨Nat.zero_le _, Nat.zero_le _⟩) (fun H locs hw => ?_)
          refine lv_aload_n hx hb d_M_statement_282 rfl (lv_at hl 0 rfl) ?_
          refine lv_iload_n hx hb d_M_statement_283 rfl (lv_at hl 1 rfl) ?_
          obtain ⟨r56, σ55, hc57, hf⟩ := zq_cs hf
          refine zr_ci hw (zr_runV (rest := []) (ci := 8) (o := 1) G hw [.int x1] (zc_M_whole hJ hc57) (cwV 1 hts (zs_gV zm_711 zm_712 zm_713 zm_551 zm_710) rfl rfl rfl (by decide +kernel) ⟨Nat.le_trans (show 110 + 1 ≤ fS + 111 by omega) hR1, Nat.le_trans (show 8 + (2 + 11) + (2354) ≤ lS + 2375 by omega) hR2⟩) rfl rfl rfl hl.1 (Nat.le_of_ble_eq_true rfl) d_M_statement_284 ⟨Nat.zero_le _, Nat.zero_le _⟩) (fun H locs hw => ?_)
          refine lv_if_eq hx hb d_M_statement_287 (tgt := 303) rfl (fun hc => ?_) (fun hc => ?_)
          · have hf := (if_pos hc).symm.trans hf
            exact K303 σ55 H locs ls hf hw (lv_sub hl [] rfl)
          · have hf := (if_neg hc).symm.trans hf
            refine lv_aload_n hx hb d_M_statement_290 rfl (lv_at hl 0 rfl) ?_
            refine va_ldcS (own := "ScheduleCheckModel") (tx := ";") (q := ad 1316) hx hb hown ((G.2.2.2.2 rfl).2.2.1 16 (by decide)) d_M_statement_291 ?_
            obtain ⟨r59, σ58, hc60, hf⟩ := zq_cs hf
            refine zr_ci hw (zr_runV (rest := []) (ci := 8) (o := 1) G hw [.ref (ad 1316)] (zc_M_take hJ hc60) (cwV 1 hts (zs_gV zm_609 zm_610 zm_611 zm_551 zm_608) rfl rfl rfl (by decide +kernel) ⟨Nat.le_trans (show 5 + 1 ≤ fS + 111 by omega) hR1, Nat.le_trans (show 8 + (2 + 11) + (107) ≤ lS + 2375 by omega) hR2⟩) rfl rfl rfl hl.1 (Nat.le_of_ble_eq_true rfl) d_M_statement_293 ⟨Nat.zero_le _, Nat.zero_le _⟩) (fun H locs hw => ?_)
            refine lv_if_eq hx hb d_M_statement_296 (tgt := 303) rfl (fun hc => ?_) (fun hc => ?_)
            · have hf := (if_pos hc).symm.trans hf
              exact K303 σ58 H locs ls hf hw (lv_sub hl [] rfl)
            · have hf := (if_neg hc).symm.trans hf
              refine lv_iconst (v := 1) hx hb d_M_statement_299 (by decide) ?_
              refine lv_goto hx hb d_M_statement_300 (tgt := 304) rfl ?_
              exact K304 1 σ58 H locs ls hf hw (lv_sub hl [] rfl)
      · have hf := (if_neg hc).symm.trans hf
        refine lv_aload_n hx hb d_M_statement_217 rfl (lv_at hl 0 rfl) ?_
        obtain ⟨q61, e_q61, h_q61, hf⟩ := zq_qs hf
        refine zr_get (ci := 8) G hw 1 12 zi_8 rfl rfl rfl (by decide) zm_583 (fun _ h => h) (v := .ref (ad q61)) (zs_fr rfl e_q61 h_q61) d_M_statement_218 ?_
        obtain ⟨hs62, hf⟩ := zq_gs hf
        have hs62 := zq_ks hs62
        obtain ⟨q63, e_q63, h_q63, hf⟩ := zq_qs hf
        refine zr_get (ci := 9) G hw q61 7 zi_9 hs62 rfl rfl (by decide) zm_625 (fun _ h => h) (v := .ref (ad q63)) (zs_fs rfl e_q63 h_q63) d_M_statement_221 ?_
        refine lv_iload_n hx hb d_M_statement_224 rfl (lv_at hl 1 rfl) ?_
        refine lv_bipush (v := 9) hx hb d_M_statement_225 (by decide) ?_
        obtain ⟨hs64, hf⟩ := zq_gs hf
        have hs64 := zq_ks hs64
        obtain ⟨hi65, hf⟩ := zq_gs hf
        obtain ⟨σ66, e_σ66, hf⟩ := zq_ss hf
        refine zr_iast G hw q63 hs64 rfl  hi65  d_M_statement_227 (fun H locs hw => ?_)
        rw [← e_σ66] at hw
        refine lv_aload_n hx hb d_M_statement_228 rfl (lv_at hl 0 rfl) ?_
        obtain ⟨σ67, hc69, hf⟩ := zq_ds hf
        refine zr_cv hw (zr_runV (rest := []) (ci := 8) (o := 1) G hw [] (zc_M_step hJ hc69) (cwV 0 hts (zs_gV zm_572 zm_573 zm_574 zm_551 zm_571) rfl rfl rfl (by decide +kernel) ⟨Nat.le_trans (show 1 + 1 ≤ fS + 111 by omega) hR1, Nat.le_trans (show 8 + (5 + 11) + (60) ≤ lS + 2375 by omega) hR2⟩) rfl rfl rfl hl.1 (Nat.le_of_ble_eq_true rfl) d_M_statement_229 ⟨Nat.zero_le _, Nat.zero_le _⟩) (fun H locs hw => ?_)
        refine lv_aload_n hx hb d_M_statement_232 rfl (lv_at hl 0 rfl) ?_
        refine va_ldcS (own := "ScheduleCheckModel") (tx := ";") (q := ad 1316) hx hb hown ((G.2.2.2.2 rfl).2.2.1 16 (by decide)) d_M_statement_233 ?_
        obtain ⟨r71, σ70, hc72, hf⟩ := zq_cs hf
        refine zr_ci hw (zr_runV (rest := []) (ci := 8) (o := 1) G hw [.ref (ad 1316)] (zc_M_take hJ hc72) (cwV 1 hts (zs_gV zm_609 zm_610 zm_611 zm_551 zm_608) rfl rfl rfl (by decide +kernel) ⟨Nat.le_trans (show 5 + 1 ≤ fS + 111 by omega) hR1, Nat.le_trans (show 8 + (2 + 11) + (107) ≤ lS + 2375 by omega) hR2⟩) rfl rfl rfl hl.1 (Nat.le_of_ble_eq_true rfl) d_M_statement_235 ⟨Nat.zero_le _, Nat.zero_le _⟩) (fun H locs hw => ?_)
        obtain ⟨hz, hf⟩ := zq_gs hf
        exact zr_zret G hw hr hlocks hz hf hQ d_M_statement_238
    · have hf := (if_neg hc).symm.trans hf
      exact K18 x1 x2 σ4 H locs ls hf hw (lv_sub hl [0, 1, 2] rfl)
/-! ScheduleCheckModel.statements -/
def zf_M_statements_b_125 (kS : Int32 → Int32 → zs_S → Option (Int32 × zs_S)) (F : Nat) (k0 : Int32 → Int32 → zs_S → Option (Int32 × zs_S)) (x1 : Int32) (x2 : Int32) (x3 : Int32) (t0 : Int32) (σ : zs_S) : Option (Int32 × zs_S) :=
  if t0 = 0 then (
    zq_c (zf_M_bad F σ) fun r52 σ51 =>
    zq_g (zq_z r52) <|
    some (r52, σ51)
  ) else (
    zq_q (zs_r σ 1 12) fun q42 =>
    zq_g (zq_k 1 q42 19) <|
    zq_v (zs_wi σ q42 6 ((zs_i σ q42 6) + 1)) fun σ44 =>
    zq_d (zf_M_lead F x1 x3 σ44) fun σ45 =>
    zq_c (zf_M_statement kS F x3 x2 σ45) fun r49 σ48 =>
    if r49 = 0 then (
      some (0, σ48)
    ) else (
      k0 x1 x2 σ48
    )
  )
def zf_M_statements_b_120 (kS : Int32 → Int32 → zs_S → Option (Int32 × zs_S)) (F : Nat) (k0 : Int32 → Int32 → zs_S → Option (Int32 × zs_S)) (x1 : Int32) (x2 : Int32) (x3 : Int32) (σ : zs_S) : Option (Int32 × zs_S) :=
  zf_M_statements_b_125 kS F k0 x1 x2 x3 1 σ
def zf_M_statements_b_28 (kS : Int32 → Int32 → zs_S → Option (Int32 × zs_S)) (F : Nat)   (σ : zs_S) : Option (Int32 × zs_S) :=
  zq_c (zf_M_bad F σ) fun r40 σ39 =>
  zq_g (zq_z r40) <|
  some (r40, σ39)
def zf_M_statements_b_0 (kS : Int32 → Int32 → zs_S → Option (Int32 × zs_S)) (F : Nat)  : Nat → Int32 → Int32 → zs_S → Option (Int32 × zs_S)
  | 0, _, _, _ => none
  | n + 1, x1, x2, σ =>
    zq_c (zf_M_is F 1318 σ) fun r2 σ1 =>
    if r2 = 0 then (
      zq_q (zs_r σ1 1 12) fun q7 =>
      zq_g (zq_k 1 q7 19) <|
      if (zs_i σ1 q7 6) = 50 then (
        zf_M_statements_b_28 kS F σ1
      ) else (
        if (zs_i σ1 1 7) = 0 then (
          zf_M_statements_b_28 kS F σ1
        ) else (
          zq_q (zs_r σ1 1 12) fun q9 =>
          zq_g (zq_k 1 q9 19) <|
          zq_v (zs_i σ1 q9 6) fun v11 =>
          zq_c (zf_M_isName F σ1) fun r13 σ12 =>
          if r13 = 0 then (
            zq_c (zf_M_is F 1304 σ12) fun r16 σ15 =>
            if r16 = 0 then (
              zq_c (zf_M_is F 1305 σ15) fun r19 σ18 =>
              if r19 = 0 then (
                zq_c (zf_M_is F 1306 σ18) fun r22 σ21 =>
                if r22 = 0 then (
                  zq_c (zf_M_is F 1307 σ21) fun r25 σ24 =>
                  if r25 = 0 then (
                    zq_c (zf_M_is F 1309 σ24) fun r28 σ27 =>
                    if r28 = 0 then (
                      zq_c (zf_M_is F 1310 σ27) fun r31 σ30 =>
                      if r31 = 0 then (
                        zq_c (zf_M_is F 1312 σ30) fun r34 σ33 =>
                        if r34 = 0 then (
                          zq_c (zf_M_is F 1313 σ33) fun r37 σ36 =>
                          if r37 = 0 then (
                            zf_M_statements_b_125 kS F (zf_M_statements_b_0 kS F n) x1 x2 v11 0 σ36
                          ) else (
                            zf_M_statements_b_120 kS F (zf_M_statements_b_0 kS F n) x1 x2 v11 σ36
                          )
                        ) else (
                          zf_M_statements_b_120 kS F (zf_M_statements_b_0 kS F n) x1 x2 v11 σ33
                        )
                      ) else (
                        zf_M_statements_b_120 kS F (zf_M_statements_b_0 kS F n) x1 x2 v11 σ30
                      )
                    ) else (
                      zf_M_statements_b_120 kS F (zf_M_statements_b_0 kS F n) x1 x2 v11 σ27
                    )
                  ) else (
                    zf_M_statements_b_120 kS F (zf_M_statements_b_0 kS F n) x1 x2 v11 σ24
                  )
                ) else (
                  zf_M_statements_b_120 kS F (zf_M_statements_b_0 kS F n) x1 x2 v11 σ21
                )
              ) else (
                zf_M_statements_b_120 kS F (zf_M_statements_b_0 kS F n) x1 x2 v11 σ18
              )
            ) else (
              zf_M_statements_b_120 kS F (zf_M_statements_b_0 kS F n) x1 x2 v11 σ15
            )
          ) else (
            zf_M_statements_b_120 kS F (zf_M_statements_b_0 kS F n) x1 x2 v11 σ12
          )
        )
      )
    ) else (
      zq_d (zf_M_step F σ1) fun σ4 =>
      some (1, σ4)
    )
def zf_M_statements_b (kS : Int32 → Int32 → zs_S → Option (Int32 × zs_S)) (F : Nat) (x1 : Int32) (x2 : Int32) (σ : zs_S) : Option (Int32 × zs_S) :=
  zf_M_statements_b_0 kS F F x1 x2 σ
set_option maxHeartbeats 4000000 in
set_option maxRecDepth 100000 in
theorem zc_M_statements_b {l : Launch} {D : va_G} {cA : Nat → ClassId} {ad : Nat → Nat} {A : Nat → Prop} {F : Nat} {x1 : Int32} {x2 : Int32} {σ : zs_S} {q : Int32 × zs_S} {kS : Int32 → Int32 → zs_S → Option (Int32 × zs_S)} {fS lS : Nat} (hS : ∀ {x1 : Int32} {x2 : Int32} {σ : zs_S} {q : Int32 × zs_S}, kS x1 x2 σ = some q → Met l y_M_statements (.code y_M_statements prog_13_method_16_code 5 (some .boolean) :: zd_ww) { frames := fS, cells := 0, slots := 0, locals := lS } (va_Pc [.ref (ad 1), .int x1, .int x2] (zs_U 1 D cA ad A σ)) (zs_Qi 1 D cA ad A q) 0 0 A) (hJ : zs_J ad) (hf : zf_M_statements_b kS F x1 x2 σ = some q) : Met l y_M_statements (.code y_M_statements prog_13_method_16_code 5 (some .boolean) :: zd_ww) { frames := fS + 112, cells := 0, slots := 0, locals := lS + 2399 } (va_Pc [.ref (ad 1), .int x1, .int x2] (zs_U 1 D cA ad A σ)) (zs_Qi 1 D cA ad A q) 0 0 A := by
  refine Met.ofW (cc := prog_13_method_16_code) (maxL := 5) (ret := (some .boolean)) (by decide) rfl ?_
  intro p e s m args below meth c s₁ B hml hv
  obtain ⟨hargs, hP, hK, hD, hZ⟩ := hv
  have G : zs_G 1 p s m args c prog_13_method_16_code 5 "ScheduleCheckModel" D cA ad A := ⟨⟨B.exec, B.bytes, hml, findClass_of_methodNamed B.named, fun w h => atoms_spec B.pre w (List.mem_cons_of_mem _ h)⟩, hK, hJ, hZ⟩
  have hw : zs_I 1 D cA ad A s σ s.heap [] := ⟨hP, hD, va_S.rf⟩
  have hx := G.1.1
  have hb := G.1.2.1
  have hown := G.1.2.2.2.1
  have hts := G.1.2.2.2.2
  have hr := B.returns
  have hlocks := B.notSynchronized
  have he : entryFrame m args 5 = F0 m 0 ((lg_sl [.ref (ad 1), .int x1, .int x2] ++ List.replicate (5 - (lg_sl [.ref (ad 1), .int x1, .int x2]).length) Slot.unset).toArray) [] := by rw [hargs]; exact lg_entry_eq m _ 5
  have hl := lv_entry [.ref (ad 1), .int x1, .int x2] (n := 5) (Nat.le_of_ble_eq_true rfl)
  rw [he]
  generalize (lg_sl [.ref (ad 1), .int x1, .int x2] ++ List.replicate (5 - (lg_sl [.ref (ad 1), .int x1, .int x2]).length) Slot.unset).toArray = ls at hl
  have hl : lv_has ls 5 [(0, .ref (ad 1)), (1, .int x1), (2, .int x2)] := hl
  obtain ⟨RR, hR⟩ : ∃ z, z = (headSpec (.code y_M_statements prog_13_method_16_code 5 (some .boolean) :: zd_ww) { frames := fS + 112, cells := 0, slots := 0, locals := lS + 2399 }).room := ⟨_, rfl⟩
  rw [← hR]
  obtain ⟨QQ, hQ⟩ : ∃ z, z = MQ below (zs_Qi 1 D cA ad A q) args s 0 0 A := ⟨_, rfl⟩
  rw [← hQ]
  have hR1 : fS + 112 ≤ RR.frames := by rw [hR]; exact Nat.le_refl _
  have hR2 : lS + 2399 ≤ RR.locals := by rw [hR]; exact Nat.le_refl _
  generalize s.heap = H at hw ⊢
  generalize ([] : List Loc) = locs at hw ⊢
  have K125 : ∀ (k0 : Int32 → Int32 → zs_S → Option (Int32 × zs_S)) (hk0 : ∀ (x1 : Int32) (x2 : Int32) (σ : zs_S) (H : Heap) (locs : List Loc) (ls : Array Slot), k0 x1 x2 σ = some q → zs_I 1 D cA ad A s σ H locs → lv_has ls 5 [(0, .ref (ad 1)), (1, .int x1), (2, .int x2)] → W p l e RR s m args below meth c H locs 0 0 QQ (F0 m 0 ls [])) (x1 : Int32) (x2 : Int32) (x3 : Int32) (t0 : Int32) (σ : zs_S) (H : Heap) (locs : List Loc) (ls : Array Slot), zf_M_statements_b_125 kS F k0 x1 x2 x3 t0 σ = some q → zs_I 1 D cA ad A s σ H locs → lv_has ls 5 [(0, .ref (ad 1)), (1, .int x1), (2, .int x2), (3, .int x3)] → W p l e RR s m args below meth c H locs 0 0 QQ (F0 m 125 ls [.int t0]) := by
    intro k0 hk0 x1 x2 x3 t0 σ H locs ls hf hw hl
    unfold zf_M_statements_b_125 at hf
    refine lv_istore hx hb d_M_statements_125 hl (by decide) rfl (fun ls hl => ?_)
    have hl : lv_has ls 5 [(4, .int t0), (0, .ref (ad 1)), (1, .int x1), (2, .int x2), (3, .int x3)] := hl
    refine lv_iload hx hb d_M_statements_127 (lv_at hl 0 rfl) ?_
    refine lv_if_ne hx hb d_M_statements_129 (tgt := 137) rfl (fun hc => ?_) (fun hc => ?_)
    · have hf := (if_neg hc).symm.trans hf
      refine lv_aload_n hx hb d_M_statements_137 rfl (lv_at hl 1 rfl) ?_
      obtain ⟨q42, e_q42, h_q42, hf⟩ := zq_qs hf
      refine zr_get (ci := 8) G hw 1 12 zi_8 rfl rfl rfl (by decide) zm_583 (fun _ h => h) (v := .ref (ad q42)) (zs_fr rfl e_q42 h_q42) d_M_statements_138 ?_
      refine lv_dup hx hb d_M_statements_141 rfl ?_
      obtain ⟨hs43, hf⟩ := zq_gs hf
      have hs43 := zq_ks hs43
      refine zr_get (ci := 9) G hw q42 6 zi_9 hs43 rfl rfl (by decide) zm_722 (fun _ h => h) (v := .int (zs_i σ q42 6)) rfl d_M_statements_142 ?_
      refine lv_iconst (v := 1) hx hb d_M_statements_145 (by decide) ?_
      refine lv_iadd hx hb d_M_statements_146 ?_
      obtain ⟨σ44, e_σ44, hf⟩ := zq_ss hf
      refine zr_puti (ci := 9) G hw q42 6 zi_9 t_zd9 t_zd9_ok n_zd9 hs43 rfl rfl (by decide) rfl zm_722 (fun _ h => h) rfl (x := ((zs_i σ q42 6) + 1)) (t_zd9_ok 6 (by decide)) rfl rfl d_M_statements_147 (fun H locs hw => ?_)
      rw [← e_σ44] at hw
      refine lv_aload_n hx hb d_M_statements_150 rfl (lv_at hl 1 rfl) ?_
      refine lv_iload_n hx hb d_M_statements_151 rfl (lv_at hl 2 rfl) ?_
      refine lv_iload_n hx hb d_M_statements_152 rfl (lv_at hl 4 rfl) ?_
      obtain ⟨σ45, hc47, hf⟩ := zq_ds hf
      refine zr_cv hw (zr_runV (rest := []) (ci := 8) (o := 1) G hw [.int x1, .int x3] (zc_M_lead hJ hc47) (cwV 2 hts (zs_gV zm_719 zm_720 zm_721 zm_551 zm_718) rfl rfl rfl (by decide +kernel) ⟨Nat.le_trans (show 0 + 1 ≤ fS + 112 by omega) hR1, Nat.le_trans (show 8 + (3 + 11) + (0) ≤ lS + 2399 by omega) hR2⟩) rfl rfl rfl hl.1 (Nat.le_of_ble_eq_true rfl) d_M_statements_153 ⟨Nat.zero_le _, Nat.zero_le _⟩) (fun H locs hw => ?_)
      refine lv_aload_n hx hb d_M_statements_156 rfl (lv_at hl 1 rfl) ?_
      refine lv_iload_n hx hb d_M_statements_157 rfl (lv_at hl 4 rfl) ?_
      refine lv_iload_n hx hb d_M_statements_158 rfl (lv_at hl 3 rfl) ?_
      obtain ⟨r49, σ48, hc50, hf⟩ := zq_cs hf
      refine zr_ci hw (zr_runV (rest := []) (ci := 8) (o := 1) G hw [.int x3, .int x2] (zc_M_statement hS hJ hc50) (cwV 2 hts (zs_gV zm_724 zm_725 zm_726 zm_551 zm_723) rfl rfl rfl (by decide +kernel) ⟨Nat.le_trans (show fS + 111 + 1 ≤ fS + 112 by omega) hR1, Nat.le_trans (show 8 + (5 + 11) + (lS + 2375) ≤ lS + 2399 by omega) hR2⟩) rfl rfl rfl hl.1 (Nat.le_of_ble_eq_true rfl) d_M_statements_159 ⟨Nat.zero_le _, Nat.zero_le _⟩) (fun H locs hw => ?_)
      refine lv_if_ne hx hb d_M_statements_162 (tgt := 167) rfl (fun hc => ?_) (fun hc => ?_)
      · have hf := (if_neg hc).symm.trans hf
        refine lv_goto hx hb d_M_statements_167 (tgt := 0) rfl ?_
        exact hk0 x1 x2 σ48 H locs ls hf hw (lv_sub hl [1, 2, 3] rfl)
      · have hf := (if_pos hc).symm.trans hf
        refine lv_iconst (v := 0) hx hb d_M_statements_165 (by decide) ?_
        exact zr_zret G hw hr hlocks (by decide) hf hQ d_M_statements_166
    · have hf := (if_pos hc).symm.trans hf
      refine lv_aload_n hx hb d_M_statements_132 rfl (lv_at hl 1 rfl) ?_
      obtain ⟨r52, σ51, hc53, hf⟩ := zq_cs hf
      refine zr_ci hw (zr_runV (rest := []) (ci := 8) (o := 1) G hw [] (zc_M_bad hJ hc53) (cwV 0 hts (zs_gV zm_576 zm_577 zm_578 zm_551 zm_575) rfl rfl rfl (by decide +kernel) ⟨Nat.le_trans (show 0 + 1 ≤ fS + 112 by omega) hR1, Nat.le_trans (show 8 + (1 + 11) + (0) ≤ lS + 2399 by omega) hR2⟩) rfl rfl rfl hl.1 (Nat.le_of_ble_eq_true rfl) d_M_statements_133 ⟨Nat.zero_le _, Nat.zero_le _⟩) (fun H locs hw => ?_)
      obtain ⟨hz, hf⟩ := zq_gs hf
      exact zr_zret G hw hr hlocks hz hf hQ d_M_statements_136
  have K120 : ∀ (k0 : Int32 → Int32 → zs_S → Option (Int32 × zs_S)) (hk0 : ∀ (x1 : Int32) (x2 : Int32) (σ : zs_S) (H : Heap) (locs : List Loc) (ls : Array Slot), k0 x1 x2 σ = some q → zs_I 1 D cA ad A s σ H locs → lv_has ls 5 [(0, .ref (ad 1)), (1, .int x1), (2, .int x2)] → W p l e RR s m args below meth c H locs 0 0 QQ (F0 m 0 ls [])) (x1 : Int32) (x2 : Int32) (x3 : Int32) (σ : zs_S) (H : Heap) (locs : List Loc) (ls : Array Slot), zf_M_statements_b_120 kS F k0 x1 x2 x3 σ = some q → zs_I 1 D cA ad A s σ H locs → lv_has ls 5 [(0, .ref (ad 1)), (1, .int x1), (2, .int x2), (3, .int x3)] → W p l e RR s m args below meth c H locs 0 0 QQ (F0 m 120 ls []) := by
    intro k0 hk0 x1 x2 x3 σ H locs ls hf hw hl
    unfold zf_M_statements_b_120 at hf
    refine lv_iconst (v := 1) hx hb d_M_statements_120 (by decide) ?_
    refine lv_goto hx hb d_M_statements_121 (tgt := 125) rfl ?_
    exact K125 k0 hk0 x1 x2 x3 1 σ H locs ls hf hw (lv_sub hl [0, 1, 2, 3] rfl)
  have K28 : ∀ (σ : zs_S) (H : Heap) (locs : List Loc) (ls : Array Slot), zf_M_statements_b_28 kS F σ = some q → zs_I 1 D cA ad A s σ H locs → lv_has ls 5 [(0, .ref (ad 1))] → W p l e RR s m args below meth c H locs 0 0 QQ (F0 m 28 ls []) := by
    intro   σ H locs ls hf hw hl
    unfold zf_M_statements_b_28 at hf
    refine lv_aload_n hx hb d_M_statements_28 rfl (lv_at hl 0 rfl) ?_
    obtain ⟨r40, σ39, hc41, hf⟩ := zq_cs hf
    refine zr_ci hw (zr_runV (rest := []) (ci := 8) (o := 1) G hw [] (zc_M_bad hJ hc41) (cwV 0 hts (zs_gV zm_576 zm_577 zm_578 zm_551 zm_575) rfl rfl rfl (by decide +kernel) ⟨Nat.le_trans (show 0 + 1 ≤ fS + 112 by omega) hR1, Nat.le_trans (show 8 + (1 + 11) + (0) ≤ lS + 2399 by omega) hR2⟩) rfl rfl rfl hl.1 (Nat.le_of_ble_eq_true rfl) d_M_statements_29 ⟨Nat.zero_le _, Nat.zero_le _⟩) (fun H locs hw => ?_)
    obtain ⟨hz, hf⟩ := zq_gs hf
    exact zr_zret G hw hr hlocks hz hf hQ d_M_statements_32
  have K0 : ∀ (n : Nat) (x1 : Int32) (x2 : Int32) (σ : zs_S) (H : Heap) (locs : List Loc) (ls : Array Slot), zf_M_statements_b_0 kS F n x1 x2 σ = some q → zs_I 1 D cA ad A s σ H locs → lv_has ls 5 [(0, .ref (ad 1)), (1, .int x1), (2, .int x2)] → W p l e RR s m args below meth c H locs 0 0 QQ (F0 m 0 ls []) := by
    intro  n
    induction n with
    | zero => intro x1 x2 σ H locs ls hf hw hl; exact nomatch (show (none : Option (Int32 × zs_S)) = some q from hf)
    | succ n ih =>
      intro x1 x2 σ H locs ls hf hw hl
      rw [zf_M_statements_b_0] at hf
      refine lv_aload_n hx hb d_M_statements_0 rfl (lv_at hl 0 rfl) ?_
      refine va_ldcS (own := "ScheduleCheckModel") (tx := "}") (q := ad 1318) hx hb hown ((G.2.2.2.2 rfl).2.2.1 18 (by decide)) d_M_statements_1 ?_
      obtain ⟨r2, σ1, hc3, hf⟩ := zq_cs hf
      refine zr_ci hw (zr_runV (rest := []) (ci := 8) (o := 1) G hw [.ref (ad 1318)] (zc_M_is hJ hc3) (cwV 1 hts (zs_gV zm_568 zm_569 zm_570 zm_551 zm_567) rfl rfl rfl (by decide +kernel) ⟨Nat.le_trans (show 4 + 1 ≤ fS + 112 by omega) hR1, Nat.le_trans (show 8 + (3 + 11) + (85) ≤ lS + 2399 by omega) hR2⟩) rfl rfl rfl hl.1 (Nat.le_of_ble_eq_true rfl) d_M_statements_3 ⟨Nat.zero_le _, Nat.zero_le _⟩) (fun H locs hw => ?_)
      refine lv_if_ne hx hb d_M_statements_6 (tgt := 170) rfl (fun hc => ?_) (fun hc => ?_)
      · have hf := (if_neg hc).symm.trans hf
        refine lv_aload_n hx hb d_M_statements_170 rfl (lv_at hl 0 rfl) ?_
        obtain ⟨σ4, hc6, hf⟩ := zq_ds hf
        refine zr_cv hw (zr_runV (rest := []) (ci := 8) (o := 1) G hw [] (zc_M_step hJ hc6) (cwV 0 hts (zs_gV zm_572 zm_573 zm_574 zm_551 zm_571) rfl rfl rfl (by decide +kernel) ⟨Nat.le_trans (show 1 + 1 ≤ fS + 112 by omega) hR1, Nat.le_trans (show 8 + (5 + 11) + (60) ≤ lS + 2399 by omega) hR2⟩) rfl rfl rfl hl.1 (Nat.le_of_ble_eq_true rfl) d_M_statements_171 ⟨Nat.zero_le _, Nat.zero_le _⟩) (fun H locs hw => ?_)
        refine lv_iconst (v := 1) hx hb d_M_statements_174 (by decide) ?_
        exact zr_zret G hw hr hlocks (by decide) hf hQ d_M_statements_175
      · have hf := (if_pos hc).symm.trans hf
        refine lv_aload_n hx hb d_M_statements_9 rfl (lv_at hl 0 rfl) ?_
        obtain ⟨q7, e_q7, h_q7, hf⟩ := zq_qs hf
        refine zr_get (ci := 8) G hw 1 12 zi_8 rfl rfl rfl (by decide) zm_583 (fun _ h => h) (v := .ref (ad q7)) (zs_fr rfl e_q7 h_q7) d_M_statements_10 ?_
        obtain ⟨hs8, hf⟩ := zq_gs hf
        have hs8 := zq_ks hs8
        refine zr_get (ci := 9) G hw q7 6 zi_9 hs8 rfl rfl (by decide) zm_722 (fun _ h => h) (v := .int (zs_i σ1 q7 6)) rfl d_M_statements_13 ?_
        refine lv_bipush (v := 50) hx hb d_M_statements_16 (by decide) ?_
        refine lv_icmp_eq hx hb d_M_statements_18 (tgt := 28) rfl (fun hc => ?_) (fun hc => ?_)
        · have hf := (if_pos hc).symm.trans hf
          exact K28 σ1 H locs ls hf hw (lv_sub hl [0] rfl)
        · have hf := (if_neg hc).symm.trans hf
          refine lv_aload_n hx hb d_M_statements_21 rfl (lv_at hl 0 rfl) ?_
          refine zr_get (ci := 8) G hw 1 7 zi_8 rfl rfl rfl (by decide) zm_556 (fun _ h => h) (v := .int (zs_i σ1 1 7)) rfl d_M_statements_22 ?_
          refine lv_if_ne hx hb d_M_statements_25 (tgt := 33) rfl (fun hc => ?_) (fun hc => ?_)
          · have hf := (if_neg hc).symm.trans hf
            refine lv_aload_n hx hb d_M_statements_33 rfl (lv_at hl 0 rfl) ?_
            obtain ⟨q9, e_q9, h_q9, hf⟩ := zq_qs hf
            refine zr_get (ci := 8) G hw 1 12 zi_8 rfl rfl rfl (by decide) zm_583 (fun _ h => h) (v := .ref (ad q9)) (zs_fr rfl e_q9 h_q9) d_M_statements_34 ?_
            obtain ⟨hs10, hf⟩ := zq_gs hf
            have hs10 := zq_ks hs10
            refine zr_get (ci := 9) G hw q9 6 zi_9 hs10 rfl rfl (by decide) zm_722 (fun _ h => h) (v := .int (zs_i σ1 q9 6)) rfl d_M_statements_37 ?_
            refine lv_topi (fun v11 e_v11 => ?_)
            have hf := zq_vs e_v11 hf
            refine lv_istore_n hx hb d_M_statements_40 rfl hl (by decide) rfl (fun ls hl => ?_)
            have hl : lv_has ls 5 [(3, .int v11), (0, .ref (ad 1)), (1, .int x1), (2, .int x2)] := hl
            refine lv_aload_n hx hb d_M_statements_41 rfl (lv_at hl 1 rfl) ?_
            obtain ⟨r13, σ12, hc14, hf⟩ := zq_cs hf
            refine zr_ci hw (zr_runV (rest := []) (ci := 8) (o := 1) G hw [] (zc_M_isName hJ hc14) (cwV 0 hts (zs_gV zm_593 zm_594 zm_595 zm_551 zm_592) rfl rfl rfl (by decide +kernel) ⟨Nat.le_trans (show 5 + 1 ≤ fS + 112 by omega) hR1, Nat.le_trans (show 8 + (2 + 11) + (107) ≤ lS + 2399 by omega) hR2⟩) rfl rfl rfl hl.1 (Nat.le_of_ble_eq_true rfl) d_M_statements_42 ⟨Nat.zero_le _, Nat.zero_le _⟩) (fun H locs hw => ?_)
            refine lv_if_ne hx hb d_M_statements_45 (tgt := 120) rfl (fun hc => ?_) (fun hc => ?_)
            · have hf := (if_neg hc).symm.trans hf
              exact K120 (zf_M_statements_b_0 kS F n) ih x1 x2 v11 σ12 H locs ls hf hw (lv_sub hl [1, 2, 3, 0] rfl)
            · have hf := (if_pos hc).symm.trans hf
              refine lv_aload_n hx hb d_M_statements_48 rfl (lv_at hl 1 rfl) ?_
              refine va_ldcS (own := "ScheduleCheckModel") (tx := "take") (q := ad 1304) hx hb hown ((G.2.2.2.2 rfl).2.2.1 4 (by decide)) d_M_statements_49 ?_
              obtain ⟨r16, σ15, hc17, hf⟩ := zq_cs hf
              refine zr_ci hw (zr_runV (rest := []) (ci := 8) (o := 1) G hw [.ref (ad 1304)] (zc_M_is hJ hc17) (cwV 1 hts (zs_gV zm_568 zm_569 zm_570 zm_551 zm_567) rfl rfl rfl (by decide +kernel) ⟨Nat.le_trans (show 4 + 1 ≤ fS + 112 by omega) hR1, Nat.le_trans (show 8 + (3 + 11) + (85) ≤ lS + 2399 by omega) hR2⟩) rfl rfl rfl hl.1 (Nat.le_of_ble_eq_true rfl) d_M_statements_51 ⟨Nat.zero_le _, Nat.zero_le _⟩) (fun H locs hw => ?_)
              refine lv_if_ne hx hb d_M_statements_54 (tgt := 120) rfl (fun hc => ?_) (fun hc => ?_)
              · have hf := (if_neg hc).symm.trans hf
                exact K120 (zf_M_statements_b_0 kS F n) ih x1 x2 v11 σ15 H locs ls hf hw (lv_sub hl [1, 2, 3, 0] rfl)
              · have hf := (if_pos hc).symm.trans hf
                refine lv_aload_n hx hb d_M_statements_57 rfl (lv_at hl 1 rfl) ?_
                refine va_ldcS (own := "ScheduleCheckModel") (tx := "give") (q := ad 1305) hx hb hown ((G.2.2.2.2 rfl).2.2.1 5 (by decide)) d_M_statements_58 ?_
                obtain ⟨r19, σ18, hc20, hf⟩ := zq_cs hf
                refine zr_ci hw (zr_runV (rest := []) (ci := 8) (o := 1) G hw [.ref (ad 1305)] (zc_M_is hJ hc20) (cwV 1 hts (zs_gV zm_568 zm_569 zm_570 zm_551 zm_567) rfl rfl rfl (by decide +kernel) ⟨Nat.le_trans (show 4 + 1 ≤ fS + 112 by omega) hR1, Nat.le_trans (show 8 + (3 + 11) + (85) ≤ lS + 2399 by omega) hR2⟩) rfl rfl rfl hl.1 (Nat.le_of_ble_eq_true rfl) d_M_statements_60 ⟨Nat.zero_le _, Nat.zero_le _⟩) (fun H locs hw => ?_)
                refine lv_if_ne hx hb d_M_statements_63 (tgt := 120) rfl (fun hc => ?_) (fun hc => ?_)
                · have hf := (if_neg hc).symm.trans hf
                  exact K120 (zf_M_statements_b_0 kS F n) ih x1 x2 v11 σ18 H locs ls hf hw (lv_sub hl [1, 2, 3, 0] rfl)
                · have hf := (if_pos hc).symm.trans hf
                  refine lv_aload_n hx hb d_M_statements_66 rfl (lv_at hl 1 rfl) ?_
                  refine va_ldcS (own := "ScheduleCheckModel") (tx := "wait") (q := ad 1306) hx hb hown ((G.2.2.2.2 rfl).2.2.1 6 (by decide)) d_M_statements_67 ?_
                  obtain ⟨r22, σ21, hc23, hf⟩ := zq_cs hf
                  refine zr_ci hw (zr_runV (rest := []) (ci := 8) (o := 1) G hw [.ref (ad 1306)] (zc_M_is hJ hc23) (cwV 1 hts (zs_gV zm_568 zm_569 zm_570 zm_551 zm_567) rfl rfl rfl (by decide +kernel) ⟨Nat.le_trans (show 4 + 1 ≤ fS + 112 by omega) hR1, Nat.le_trans (show 8 + (3 + 11) + (85) ≤ lS + 2399 by omega) hR2⟩) rfl rfl rfl hl.1 (Nat.le_of_ble_eq_true rfl) d_M_statements_69 ⟨Nat.zero_le _, Nat.zero_le _⟩) (fun H locs hw => ?_)
                  refine lv_if_ne hx hb d_M_statements_72 (tgt := 120) rfl (fun hc => ?_) (fun hc => ?_)
                  · have hf := (if_neg hc).symm.trans hf
                    exact K120 (zf_M_statements_b_0 kS F n) ih x1 x2 v11 σ21 H locs ls hf hw (lv_sub hl [1, 2, 3, 0] rfl)
                  · have hf := (if_pos hc).symm.trans hf
                    refine lv_aload_n hx hb d_M_statements_75 rfl (lv_at hl 1 rfl) ?_
                    refine va_ldcS (own := "ScheduleCheckModel") (tx := "wake") (q := ad 1307) hx hb hown ((G.2.2.2.2 rfl).2.2.1 7 (by decide)) d_M_statements_76 ?_
                    obtain ⟨r25, σ24, hc26, hf⟩ := zq_cs hf
                    refine zr_ci hw (zr_runV (rest := []) (ci := 8) (o := 1) G hw [.ref (ad 1307)] (zc_M_is hJ hc26) (cwV 1 hts (zs_gV zm_568 zm_569 zm_570 zm_551 zm_567) rfl rfl rfl (by decide +kernel) ⟨Nat.le_trans (show 4 + 1 ≤ fS + 112 by omega) hR1, Nat.le_trans (show 8 + (3 + 11) + (85) ≤ lS + 2399 by omega) hR2⟩) rfl rfl rfl hl.1 (Nat.le_of_ble_eq_true rfl) d_M_statements_78 ⟨Nat.zero_le _, Nat.zero_le _⟩) (fun H locs hw => ?_)
                    refine lv_if_ne hx hb d_M_statements_81 (tgt := 120) rfl (fun hc => ?_) (fun hc => ?_)
                    · have hf := (if_neg hc).symm.trans hf
                      exact K120 (zf_M_statements_b_0 kS F n) ih x1 x2 v11 σ24 H locs ls hf hw (lv_sub hl [1, 2, 3, 0] rfl)
                    · have hf := (if_pos hc).symm.trans hf
                      refine lv_aload_n hx hb d_M_statements_84 rfl (lv_at hl 1 rfl) ?_
                      refine va_ldcS (own := "ScheduleCheckModel") (tx := "assert") (q := ad 1309) hx hb hown ((G.2.2.2.2 rfl).2.2.1 9 (by decide)) d_M_statements_85 ?_
                      obtain ⟨r28, σ27, hc29, hf⟩ := zq_cs hf
                      refine zr_ci hw (zr_runV (rest := []) (ci := 8) (o := 1) G hw [.ref (ad 1309)] (zc_M_is hJ hc29) (cwV 1 hts (zs_gV zm_568 zm_569 zm_570 zm_551 zm_567) rfl rfl rfl (by decide +kernel) ⟨Nat.le_trans (show 4 + 1 ≤ fS + 112 by omega) hR1, Nat.le_trans (show 8 + (3 + 11) + (85) ≤ lS + 2399 by omega) hR2⟩) rfl rfl rfl hl.1 (Nat.le_of_ble_eq_true rfl) d_M_statements_87 ⟨Nat.zero_le _, Nat.zero_le _⟩) (fun H locs hw => ?_)
                      refine lv_if_ne hx hb d_M_statements_90 (tgt := 120) rfl (fun hc => ?_) (fun hc => ?_)
                      · have hf := (if_neg hc).symm.trans hf
                        exact K120 (zf_M_statements_b_0 kS F n) ih x1 x2 v11 σ27 H locs ls hf hw (lv_sub hl [1, 2, 3, 0] rfl)
                      · have hf := (if_pos hc).symm.trans hf
                        refine lv_aload_n hx hb d_M_statements_93 rfl (lv_at hl 1 rfl) ?_
                        refine va_ldcS (own := "ScheduleCheckModel") (tx := "if") (q := ad 1310) hx hb hown ((G.2.2.2.2 rfl).2.2.1 10 (by decide)) d_M_statements_94 ?_
                        obtain ⟨r31, σ30, hc32, hf⟩ := zq_cs hf
                        refine zr_ci hw (zr_runV (rest := []) (ci := 8) (o := 1) G hw [.ref (ad 1310)] (zc_M_is hJ hc32) (cwV 1 hts (zs_gV zm_568 zm_569 zm_570 zm_551 zm_567) rfl rfl rfl (by decide +kernel) ⟨Nat.le_trans (show 4 + 1 ≤ fS + 112 by omega) hR1, Nat.le_trans (show 8 + (3 + 11) + (85) ≤ lS + 2399 by omega) hR2⟩) rfl rfl rfl hl.1 (Nat.le_of_ble_eq_true rfl) d_M_statements_96 ⟨Nat.zero_le _, Nat.zero_le _⟩) (fun H locs hw => ?_)
                        refine lv_if_ne hx hb d_M_statements_99 (tgt := 120) rfl (fun hc => ?_) (fun hc => ?_)
                        · have hf := (if_neg hc).symm.trans hf
                          exact K120 (zf_M_statements_b_0 kS F n) ih x1 x2 v11 σ30 H locs ls hf hw (lv_sub hl [1, 2, 3, 0] rfl)
                        · have hf := (if_pos hc).symm.trans hf
                          refine lv_aload_n hx hb d_M_statements_102 rfl (lv_at hl 1 rfl) ?_
                          refine va_ldcS (own := "ScheduleCheckModel") (tx := "while") (q := ad 1312) hx hb hown ((G.2.2.2.2 rfl).2.2.1 12 (by decide)) d_M_statements_103 ?_
                          obtain ⟨r34, σ33, hc35, hf⟩ := zq_cs hf
                          refine zr_ci hw (zr_runV (rest := []) (ci := 8) (o := 1) G hw [.ref (ad 1312)] (zc_M_is hJ hc35) (cwV 1 hts (zs_gV zm_568 zm_569 zm_570 zm_551 zm_567) rfl rfl rfl (by decide +kernel) ⟨Nat.le_trans (show 4 + 1 ≤ fS + 112 by omega) hR1, Nat.le_trans (show 8 + (3 + 11) + (85) ≤ lS + 2399 by omega) hR2⟩) rfl rfl rfl hl.1 (Nat.le_of_ble_eq_true rfl) d_M_statements_105 ⟨Nat.zero_le _, Nat.zero_le _⟩) (fun H locs hw => ?_)
                          refine lv_if_ne hx hb d_M_statements_108 (tgt := 120) rfl (fun hc => ?_) (fun hc => ?_)
                          · have hf := (if_neg hc).symm.trans hf
                            exact K120 (zf_M_statements_b_0 kS F n) ih x1 x2 v11 σ33 H locs ls hf hw (lv_sub hl [1, 2, 3, 0] rfl)
                          · have hf := (if_pos hc).symm.trans hf
                            refine lv_aload_n hx hb d_M_statements_111 rfl (lv_at hl 1 rfl) ?_
                            refine va_ldcS (own := "ScheduleCheckModel") (tx := "stop") (q := ad 1313) hx hb hown ((G.2.2.2.2 rfl).2.2.1 13 (by decide)) d_M_statements_112 ?_
                            obtain ⟨r37, σ36, hc38, hf⟩ := zq_cs hf
                            refine zr_ci hw (zr_runV (rest := []) (ci := 8) (o := 1) G hw [.ref (ad 1313)] (zc_M_is hJ hc38) (cwV 1 hts (zs_gV zm_568 zm_569 zm_570 zm_551 zm_567) rfl rfl rfl (by decide +kernel) ⟨Nat.le_trans (show 4 + 1 ≤ fS + 112 by omega) hR1, Nat.le_trans (show 8 + (3 + 11) + (85) ≤ lS + 2399 by omega) hR2⟩) rfl rfl rfl hl.1 (Nat.le_of_ble_eq_true rfl) d_M_statements_114 ⟨Nat.zero_le _, Nat.zero_le _⟩) (fun H locs hw => ?_)
                            refine lv_if_eq hx hb d_M_statements_117 (tgt := 124) rfl (fun hc => ?_) (fun hc => ?_)
                            · have hf := (if_pos hc).symm.trans hf
                              refine lv_iconst (v := 0) hx hb d_M_statements_124 (by decide) ?_
                              exact K125 (zf_M_statements_b_0 kS F n) ih x1 x2 v11 0 σ36 H locs ls hf hw (lv_sub hl [1, 2, 3, 0] rfl)
                            · have hf := (if_neg hc).symm.trans hf
                              exact K120 (zf_M_statements_b_0 kS F n) ih x1 x2 v11 σ36 H locs ls hf hw (lv_sub hl [1, 2, 3, 0] rfl)
          · have hf := (if_pos hc).symm.trans hf
            exact K28 σ1 H locs ls hf hw (lv_sub hl [0] rfl)
  unfold zf_M_statements_b at hf
  exact K0 F x1 x2 σ H locs ls hf hw (lv_sub hl [0, 1, 2] rfl)
def zf_M_statements (F : Nat) : Nat → Int32 → Int32 → zs_S → Option (Int32 × zs_S)
  | 0, _, _, _ => none
  | n + 1, x1, x2, σ => zf_M_statements_b (zf_M_statements F n) F x1 x2 σ
theorem zc_M_statements {l : Launch} {D : va_G} {cA : Nat → ClassId} {ad : Nat → Nat} {A : Nat → Prop} {F : Nat} (hJ : zs_J ad) : ∀ (n : Nat) {x1 : Int32} {x2 : Int32} {σ : zs_S} {q : Int32 × zs_S}, zf_M_statements F n x1 x2 σ = some q → Met l y_M_statements (.code y_M_statements prog_13_method_16_code 5 (some .boolean) :: zd_ww) { frames := n * 112, cells := 0, slots := 0, locals := n * 2399 } (va_Pc [.ref (ad 1), .int x1, .int x2] (zs_U 1 D cA ad A σ)) (zs_Qi 1 D cA ad A q) 0 0 A := by
  intro n
  induction n with
  | zero => intro x1 x2 σ q hf; exact nomatch (show (none : Option (Int32 × zs_S)) = some q from hf)
  | succ n ih =>
    intro x1 x2 σ q hf
    have h := zc_M_statements_b  (kS := zf_M_statements F n) (fS := n * 112) (lS := n * 2399) (fun h => ih h) hJ hf
    have e1 : (n + 1) * 112 = n * 112 + 112 := by omega
    have e2 : (n + 1) * 2399 = n * 2399 + 2399 := by omega
    rw [e1, e2]
    exact h
/-! ScheduleCheckModel.thread -/
def y_M_thread : MethodName := ⟨"ScheduleCheckModel","thread","()Z"⟩
def zf_M_thread_140 (F : Nat)   (σ : zs_S) : Option (Int32 × zs_S) :=
  zq_c (zf_M_bad F σ) fun r69 σ68 =>
  zq_g (zq_z r69) <|
  some (r69, σ68)
def zf_M_thread_82 (F : Nat)  : Nat → Int32 → zs_S → Option (Int32 × zs_S)
  | 0, _, _ => none
  | n + 1, x1, σ =>
    zq_c (zf_M_is F 1303 σ) fun r32 σ31 =>
    if r32 = 0 then (
      zq_v (zs_wi σ31 1 16 0) fun σ34 =>
      zq_v (zs_wi σ34 1 16 ((zs_i σ34 1 16) + 1)) fun σ35 =>
      zq_g (zq_b (zs_i σ34 1 16) 200) <|
      zq_v (zs_wi σ35 57 ((zs_i σ34 1 16).toNatClampNeg) (((-1)) - x1)) fun σ37 =>
      zq_c (zf_M_statements F 8 0 0 σ37) fun r39 σ38 =>
      if r39 = 0 then (
        some (0, σ38)
      ) else (
        zq_d (zf_M_lead F 0 ((-1)) σ38) fun σ41 =>
        some (1, σ41)
      )
    ) else (
      zq_d (zf_M_step F σ31) fun σ44 =>
      zq_c (zf_M_isName F σ44) fun r48 σ47 =>
      if r48 = 0 then (
        zf_M_thread_140 F σ47
      ) else (
        zq_q (zs_r σ47 1 13) fun q50 =>
        zq_g (zq_k 1 q50 20) <|
        if (zs_i σ47 q50 2) = 3 then (
          zf_M_thread_140 F σ47
        ) else (
          zq_q (zs_r σ47 1 13) fun q52 =>
          zq_g (zq_k 1 q52 20) <|
          zq_c (zf_MN_find F q52 2 (zs_i σ47 1 8) ((zs_i σ47 1 9) - (zs_i σ47 1 8)) σ47) fun r54 σ53 =>
          if r54 < 0 then (
            zq_q (zs_r σ53 1 13) fun q57 =>
            zq_g (zq_k 1 q57 20) <|
            zq_d (zf_MN_add F q57 2 (zs_i σ53 1 8) ((zs_i σ53 1 9) - (zs_i σ53 1 8)) σ53) fun σ58 =>
            zq_d (zf_M_step F σ58) fun σ62 =>
            zq_c (zf_M_take F 1316 σ62) fun r66 σ65 =>
            if r66 = 0 then (
              some (0, σ65)
            ) else (
              (zf_M_thread_82 F n) x1 σ65
            )
          ) else (
            zf_M_thread_140 F σ53
          )
        )
      )
    )
def zf_M_thread_20 (F : Nat)   (σ : zs_S) : Option (Int32 × zs_S) :=
  zq_c (zf_M_bad F σ) fun r29 σ28 =>
  zq_g (zq_z r29) <|
  some (r29, σ28)
def zf_M_thread (F : Nat)  (σ : zs_S) : Option (Int32 × zs_S) :=
  zq_c (zf_M_is F 1302 σ) fun r2 σ1 =>
  if r2 = 0 then (
    zf_M_thread_20 F σ1
  ) else (
    zq_q (zs_r σ1 1 12) fun q4 =>
    zq_g (zq_k 1 q4 19) <|
    if (zs_i σ1 q4 5) = 4 then (
      zf_M_thread_20 F σ1
    ) else (
      zq_d (zf_M_step F σ1) fun σ6 =>
      zq_c (zf_M_take F 1317 σ6) fun r10 σ9 =>
      if r10 = 0 then (
        some (0, σ9)
      ) else (
        zq_q (zs_r σ9 1 12) fun q12 =>
        zq_g (zq_k 1 q12 19) <|
        zq_v (zs_i σ9 q12 5) fun v14 =>
        zq_q (zs_r σ9 1 12) fun q15 =>
        zq_g (zq_k 1 q15 19) <|
        zq_q (zd_rf 1 q15 2) fun q17 =>
        zq_g (zq_k 1 q17 6) <|
        zq_g (zq_b v14 (zd_sh 1 q17).2) <|
        zq_q (zd_rf 1 q17 (v14).toNatClampNeg) fun q20 =>
        zq_v (zs_wr σ9 1 13 q20) fun σ21 =>
        zq_q (zs_r σ21 1 13) fun q22 =>
        zq_g (zq_k 1 q22 20) <|
        zq_v (zs_wi σ21 q22 2 0) fun σ24 =>
        zq_q (zs_r σ24 1 12) fun q25 =>
        zq_g (zq_k 1 q25 19) <|
        zq_v (zs_wi σ24 q25 5 ((zs_i σ24 q25 5) + 1)) fun σ27 =>
        zf_M_thread_82 F F v14 σ27
      )
    )
  )
set_option maxHeartbeats 4000000 in
set_option maxRecDepth 100000 in
theorem zc_M_thread {l : Launch} {D : va_G} {cA : Nat → ClassId} {ad : Nat → Nat} {A : Nat → Prop} {F : Nat}  {σ : zs_S} {q : Int32 × zs_S} (hJ : zs_J ad) (hf : zf_M_thread F  σ = some q) : Met l y_M_thread (.code y_M_thread prog_13_method_14_code 2 (some .boolean) :: zd_ww) { frames := 897, cells := 0, slots := 0, locals := 19216 } (va_Pc [.ref (ad 1)] (zs_U 1 D cA ad A σ)) (zs_Qi 1 D cA ad A q) 0 0 A := by
  refine Met.ofW (cc := prog_13_method_14_code) (maxL := 2) (ret := (some .boolean)) (by decide) rfl ?_
  intro p e s m args below meth c s₁ B hml hv
  obtain ⟨hargs, hP, hK, hD, hZ⟩ := hv
  have G : zs_G 1 p s m args c prog_13_method_14_code 2 "ScheduleCheckModel" D cA ad A := ⟨⟨B.exec, B.bytes, hml, findClass_of_methodNamed B.named, fun w h => atoms_spec B.pre w (List.mem_cons_of_mem _ h)⟩, hK, hJ, hZ⟩
  have hw : zs_I 1 D cA ad A s σ s.heap [] := ⟨hP, hD, va_S.rf⟩
  have hx := G.1.1
  have hb := G.1.2.1
  have hown := G.1.2.2.2.1
  have hts := G.1.2.2.2.2
  have hr := B.returns
  have hlocks := B.notSynchronized
  have he : entryFrame m args 2 = F0 m 0 ((lg_sl [.ref (ad 1)] ++ List.replicate (2 - (lg_sl [.ref (ad 1)]).length) Slot.unset).toArray) [] := by rw [hargs]; exact lg_entry_eq m _ 2
  have hl := lv_entry [.ref (ad 1)] (n := 2) (Nat.le_of_ble_eq_true rfl)
  rw [he]
  generalize (lg_sl [.ref (ad 1)] ++ List.replicate (2 - (lg_sl [.ref (ad 1)]).length) Slot.unset).toArray = ls at hl
  have hl : lv_has ls 2 [(0, .ref (ad 1))] := hl
  obtain ⟨RR, hR⟩ : ∃ z, z = (headSpec (.code y_M_thread prog_13_method_14_code 2 (some .boolean) :: zd_ww) { frames := 897, cells := 0, slots := 0, locals := 19216 }).room := ⟨_, rfl⟩
  rw [← hR]
  obtain ⟨QQ, hQ⟩ : ∃ z, z = MQ below (zs_Qi 1 D cA ad A q) args s 0 0 A := ⟨_, rfl⟩
  rw [← hQ]
  have hR1 : 897 ≤ RR.frames := by rw [hR]; exact Nat.le_refl _
  have hR2 : 19216 ≤ RR.locals := by rw [hR]; exact Nat.le_refl _
  generalize s.heap = H at hw ⊢
  generalize ([] : List Loc) = locs at hw ⊢
  have K140 : ∀ (σ : zs_S) (H : Heap) (locs : List Loc) (ls : Array Slot), zf_M_thread_140 F σ = some q → zs_I 1 D cA ad A s σ H locs → lv_has ls 2 [(0, .ref (ad 1))] → W p l e RR s m args below meth c H locs 0 0 QQ (F0 m 140 ls []) := by
    intro   σ H locs ls hf hw hl
    unfold zf_M_thread_140 at hf
    refine lv_aload_n hx hb d_M_thread_140 rfl (lv_at hl 0 rfl) ?_
    obtain ⟨r69, σ68, hc70, hf⟩ := zq_cs hf
    refine zr_ci hw (zr_runV (rest := []) (ci := 8) (o := 1) G hw [] (zc_M_bad hJ hc70) (cwV 0 hts (zs_gV zm_576 zm_577 zm_578 zm_551 zm_575) rfl rfl rfl (by decide +kernel) ⟨Nat.le_trans (by decide) hR1, Nat.le_trans (by decide) hR2⟩) rfl rfl rfl hl.1 (Nat.le_of_ble_eq_true rfl) d_M_thread_141 ⟨Nat.zero_le _, Nat.zero_le _⟩) (fun H locs hw => ?_)
    obtain ⟨hz, hf⟩ := zq_gs hf
    exact zr_zret G hw hr hlocks hz hf hQ d_M_thread_144
  have K82 : ∀ (n : Nat) (x1 : Int32) (σ : zs_S) (H : Heap) (locs : List Loc) (ls : Array Slot), zf_M_thread_82 F n x1 σ = some q → zs_I 1 D cA ad A s σ H locs → lv_has ls 2 [(0, .ref (ad 1)), (1, .int x1)] → W p l e RR s m args below meth c H locs 0 0 QQ (F0 m 82 ls []) := by
    intro  n
    induction n with
    | zero => intro x1 σ H locs ls hf hw hl; exact nomatch (show (none : Option (Int32 × zs_S)) = some q from hf)
    | succ n ih =>
      intro x1 σ H locs ls hf hw hl
      rw [zf_M_thread_82] at hf
      refine lv_aload_n hx hb d_M_thread_82 rfl (lv_at hl 0 rfl) ?_
      refine va_ldcS (own := "ScheduleCheckModel") (tx := "local") (q := ad 1303) hx hb hown ((G.2.2.2.2 rfl).2.2.1 3 (by decide)) d_M_thread_83 ?_
      obtain ⟨r32, σ31, hc33, hf⟩ := zq_cs hf
      refine zr_ci hw (zr_runV (rest := []) (ci := 8) (o := 1) G hw [.ref (ad 1303)] (zc_M_is hJ hc33) (cwV 1 hts (zs_gV zm_568 zm_569 zm_570 zm_551 zm_567) rfl rfl rfl (by decide +kernel) ⟨Nat.le_trans (by decide) hR1, Nat.le_trans (by decide) hR2⟩) rfl rfl rfl hl.1 (Nat.le_of_ble_eq_true rfl) d_M_thread_85 ⟨Nat.zero_le _, Nat.zero_le _⟩) (fun H locs hw => ?_)
      refine lv_if_eq hx hb d_M_thread_88 (tgt := 184) rfl (fun hc => ?_) (fun hc => ?_)
      · have hf := (if_pos hc).symm.trans hf
        refine lv_aload_n hx hb d_M_thread_184 rfl (lv_at hl 0 rfl) ?_
        refine lv_iconst (v := 0) hx hb d_M_thread_185 (by decide) ?_
        obtain ⟨σ34, e_σ34, hf⟩ := zq_ss hf
        refine zr_puti (ci := 8) G hw 1 16 zi_8 t_zd8 t_zd8_ok n_zd8 rfl rfl rfl (by decide) rfl zm_586 (fun _ h => h) rfl (x := 0) (t_zd8_ok 16 (by decide)) rfl rfl d_M_thread_186 (fun H locs hw => ?_)
        rw [← e_σ34] at hw
        refine lv_aload_n hx hb d_M_thread_189 rfl (lv_at hl 0 rfl) ?_
        refine zr_get (ci := 8) G hw 1 15 zi_8 rfl rfl rfl (by decide) zm_587 (fun _ h => h) (v := .ref (ad 57)) rfl d_M_thread_190 ?_
        refine lv_aload_n hx hb d_M_thread_193 rfl (lv_at hl 0 rfl) ?_
        refine lv_dup hx hb d_M_thread_194 rfl ?_
        refine zr_get (ci := 8) G hw 1 16 zi_8 rfl rfl rfl (by decide) zm_586 (fun _ h => h) (v := .int (zs_i σ34 1 16)) rfl d_M_thread_195 ?_
        refine lv_dup_x1 hx hb d_M_thread_198 rfl rfl ?_
        refine lv_iconst (v := 1) hx hb d_M_thread_199 (by decide) ?_
        refine lv_iadd hx hb d_M_thread_200 ?_
        obtain ⟨σ35, e_σ35, hf⟩ := zq_ss hf
        refine zr_puti (ci := 8) G hw 1 16 zi_8 t_zd8 t_zd8_ok n_zd8 rfl rfl rfl (by decide) rfl zm_586 (fun _ h => h) rfl (x := ((zs_i σ34 1 16) + 1)) (t_zd8_ok 16 (by decide)) rfl rfl d_M_thread_201 (fun H locs hw => ?_)
        rw [← e_σ35] at hw
        refine lv_iconst (v := (-1)) hx hb d_M_thread_204 (by decide) ?_
        refine lv_iload_n hx hb d_M_thread_205 rfl (lv_at hl 1 rfl) ?_
        refine lv_isub hx hb d_M_thread_206 ?_
        obtain ⟨hi36, hf⟩ := zq_gs hf
        obtain ⟨σ37, e_σ37, hf⟩ := zq_ss hf
        refine zr_iast G hw 57 rfl rfl  hi36  d_M_thread_207 (fun H locs hw => ?_)
        rw [← e_σ37] at hw
        refine lv_aload_n hx hb d_M_thread_208 rfl (lv_at hl 0 rfl) ?_
        refine lv_iconst (v := 0) hx hb d_M_thread_209 (by decide) ?_
        refine lv_iconst (v := 0) hx hb d_M_thread_210 (by decide) ?_
        obtain ⟨r39, σ38, hc40, hf⟩ := zq_cs hf
        refine zr_ci hw (zr_runV (rest := []) (ci := 8) (o := 1) G hw [.int 0, .int 0] (zc_M_statements  hJ 8 hc40) (cwV 2 hts (zs_gV zm_707 zm_708 zm_709 zm_551 zm_706) rfl rfl rfl (by decide +kernel) ⟨Nat.le_trans (by decide) hR1, Nat.le_trans (by decide) hR2⟩) rfl rfl rfl hl.1 (Nat.le_of_ble_eq_true rfl) d_M_thread_211 ⟨Nat.zero_le _, Nat.zero_le _⟩) (fun H locs hw => ?_)
        refine lv_if_ne hx hb d_M_thread_214 (tgt := 219) rfl (fun hc => ?_) (fun hc => ?_)
        · have hf := (if_neg hc).symm.trans hf
          refine lv_aload_n hx hb d_M_thread_219 rfl (lv_at hl 0 rfl) ?_
          refine lv_iconst (v := 0) hx hb d_M_thread_220 (by decide) ?_
          refine lv_iconst (v := (-1)) hx hb d_M_thread_221 (by decide) ?_
          obtain ⟨σ41, hc43, hf⟩ := zq_ds hf
          refine zr_cv hw (zr_runV (rest := []) (ci := 8) (o := 1) G hw [.int 0, .int ((-1))] (zc_M_lead hJ hc43) (cwV 2 hts (zs_gV zm_719 zm_720 zm_721 zm_551 zm_718) rfl rfl rfl (by decide +kernel) ⟨Nat.le_trans (by decide) hR1, Nat.le_trans (by decide) hR2⟩) rfl rfl rfl hl.1 (Nat.le_of_ble_eq_true rfl) d_M_thread_222 ⟨Nat.zero_le _, Nat.zero_le _⟩) (fun H locs hw => ?_)
          refine lv_iconst (v := 1) hx hb d_M_thread_225 (by decide) ?_
          exact zr_zret G hw hr hlocks (by decide) hf hQ d_M_thread_226
        · have hf := (if_pos hc).symm.trans hf
          refine lv_iconst (v := 0) hx hb d_M_thread_217 (by decide) ?_
          exact zr_zret G hw hr hlocks (by decide) hf hQ d_M_thread_218
      · have hf := (if_neg hc).symm.trans hf
        refine lv_aload_n hx hb d_M_thread_91 rfl (lv_at hl 0 rfl) ?_
        obtain ⟨σ44, hc46, hf⟩ := zq_ds hf
        refine zr_cv hw (zr_runV (rest := []) (ci := 8) (o := 1) G hw [] (zc_M_step hJ hc46) (cwV 0 hts (zs_gV zm_572 zm_573 zm_574 zm_551 zm_571) rfl rfl rfl (by decide +kernel) ⟨Nat.le_trans (by decide) hR1, Nat.le_trans (by decide) hR2⟩) rfl rfl rfl hl.1 (Nat.le_of_ble_eq_true rfl) d_M_thread_92 ⟨Nat.zero_le _, Nat.zero_le _⟩) (fun H locs hw => ?_)
        refine lv_aload_n hx hb d_M_thread_95 rfl (lv_at hl 0 rfl) ?_
        obtain ⟨r48, σ47, hc49, hf⟩ := zq_cs hf
        refine zr_ci hw (zr_runV (rest := []) (ci := 8) (o := 1) G hw [] (zc_M_isName hJ hc49) (cwV 0 hts (zs_gV zm_593 zm_594 zm_595 zm_551 zm_592) rfl rfl rfl (by decide +kernel) ⟨Nat.le_trans (by decide) hR1, Nat.le_trans (by decide) hR2⟩) rfl rfl rfl hl.1 (Nat.le_of_ble_eq_true rfl) d_M_thread_96 ⟨Nat.zero_le _, Nat.zero_le _⟩) (fun H locs hw => ?_)
        refine lv_if_eq hx hb d_M_thread_99 (tgt := 140) rfl (fun hc => ?_) (fun hc => ?_)
        · have hf := (if_pos hc).symm.trans hf
          exact K140 σ47 H locs ls hf hw (lv_sub hl [0] rfl)
        · have hf := (if_neg hc).symm.trans hf
          refine lv_aload_n hx hb d_M_thread_102 rfl (lv_at hl 0 rfl) ?_
          obtain ⟨q50, e_q50, h_q50, hf⟩ := zq_qs hf
          refine zr_get (ci := 8) G hw 1 13 zi_8 rfl rfl rfl (by decide) zm_701 (fun _ h => h) (v := .ref (ad q50)) (zs_fr rfl e_q50 h_q50) d_M_thread_103 ?_
          obtain ⟨hs51, hf⟩ := zq_gs hf
          have hs51 := zq_ks hs51
          refine zr_get (ci := 10) G hw q50 2 zi_10 hs51 rfl rfl (by decide) zm_596 (fun _ h => h) (v := .int (zs_i σ47 q50 2)) rfl d_M_thread_106 ?_
          refine lv_iconst (v := 3) hx hb d_M_thread_109 (by decide) ?_
          refine lv_icmp_eq hx hb d_M_thread_110 (tgt := 140) rfl (fun hc => ?_) (fun hc => ?_)
          · have hf := (if_pos hc).symm.trans hf
            exact K140 σ47 H locs ls hf hw (lv_sub hl [0] rfl)
          · have hf := (if_neg hc).symm.trans hf
            refine lv_aload_n hx hb d_M_thread_113 rfl (lv_at hl 0 rfl) ?_
            obtain ⟨q52, e_q52, h_q52, hf⟩ := zq_qs hf
            refine zr_get (ci := 8) G hw 1 13 zi_8 rfl rfl rfl (by decide) zm_701 (fun _ h => h) (v := .ref (ad q52)) (zs_fr rfl e_q52 h_q52) d_M_thread_114 ?_
            refine lv_aload_n hx hb d_M_thread_117 rfl (lv_at hl 0 rfl) ?_
            refine zr_get (ci := 8) G hw 1 0 zi_8 rfl rfl rfl (by decide) zm_547 (fun _ h => h) (v := .ref (ad 2)) rfl d_M_thread_118 ?_
            refine lv_aload_n hx hb d_M_thread_121 rfl (lv_at hl 0 rfl) ?_
            refine zr_get (ci := 8) G hw 1 8 zi_8 rfl rfl rfl (by decide) zm_544 (fun _ h => h) (v := .int (zs_i σ47 1 8)) rfl d_M_thread_122 ?_
            refine lv_aload_n hx hb d_M_thread_125 rfl (lv_at hl 0 rfl) ?_
            refine zr_get (ci := 8) G hw 1 9 zi_8 rfl rfl rfl (by decide) zm_558 (fun _ h => h) (v := .int (zs_i σ47 1 9)) rfl d_M_thread_126 ?_
            refine lv_aload_n hx hb d_M_thread_129 rfl (lv_at hl 0 rfl) ?_
            refine zr_get (ci := 8) G hw 1 8 zi_8 rfl rfl rfl (by decide) zm_544 (fun _ h => h) (v := .int (zs_i σ47 1 8)) rfl d_M_thread_130 ?_
            refine lv_isub hx hb d_M_thread_133 ?_
            obtain ⟨hs56, hf⟩ := zq_gs hf
            have hs56 := zq_ks hs56
            obtain ⟨r54, σ53, hc55, hf⟩ := zq_cs hf
            refine zr_ci hw (zr_runV (rest := []) (ci := 10) (o := q52) G hw [.ref (ad 2), .int (zs_i σ47 1 8), .int ((zs_i σ47 1 9) - (zs_i σ47 1 8))] (zc_MN_find hJ hc55) (cwV 3 hts (zs_gV zm_599 zm_600 zm_601 zm_602 zm_598) rfl rfl rfl (by decide +kernel) ⟨Nat.le_trans (by decide) hR1, Nat.le_trans (by decide) hR2⟩) hs56 rfl rfl hl.1 (Nat.le_of_ble_eq_true rfl) d_M_thread_134 ⟨Nat.zero_le _, Nat.zero_le _⟩) (fun H locs hw => ?_)
            refine lv_if_lt hx hb d_M_thread_137 (tgt := 145) rfl (fun hc => ?_) (fun hc => ?_)
            · have hf := (if_pos hc).symm.trans hf
              refine lv_aload_n hx hb d_M_thread_145 rfl (lv_at hl 0 rfl) ?_
              obtain ⟨q57, e_q57, h_q57, hf⟩ := zq_qs hf
              refine zr_get (ci := 8) G hw 1 13 zi_8 rfl rfl rfl (by decide) zm_701 (fun _ h => h) (v := .ref (ad q57)) (zs_fr rfl e_q57 h_q57) d_M_thread_146 ?_
              refine lv_aload_n hx hb d_M_thread_149 rfl (lv_at hl 0 rfl) ?_
              refine zr_get (ci := 8) G hw 1 0 zi_8 rfl rfl rfl (by decide) zm_547 (fun _ h => h) (v := .ref (ad 2)) rfl d_M_thread_150 ?_
              refine lv_aload_n hx hb d_M_thread_153 rfl (lv_at hl 0 rfl) ?_
              refine zr_get (ci := 8) G hw 1 8 zi_8 rfl rfl rfl (by decide) zm_544 (fun _ h => h) (v := .int (zs_i σ53 1 8)) rfl d_M_thread_154 ?_
              refine lv_aload_n hx hb d_M_thread_157 rfl (lv_at hl 0 rfl) ?_
              refine zr_get (ci := 8) G hw 1 9 zi_8 rfl rfl rfl (by decide) zm_558 (fun _ h => h) (v := .int (zs_i σ53 1 9)) rfl d_M_thread_158 ?_
              refine lv_aload_n hx hb d_M_thread_161 rfl (lv_at hl 0 rfl) ?_
              refine zr_get (ci := 8) G hw 1 8 zi_8 rfl rfl rfl (by decide) zm_544 (fun _ h => h) (v := .int (zs_i σ53 1 8)) rfl d_M_thread_162 ?_
              refine lv_isub hx hb d_M_thread_165 ?_
              obtain ⟨hs61, hf⟩ := zq_gs hf
              have hs61 := zq_ks hs61
              obtain ⟨σ58, hc60, hf⟩ := zq_ds hf
              refine zr_cv hw (zr_runV (rest := []) (ci := 10) (o := q57) G hw [.ref (ad 2), .int (zs_i σ53 1 8), .int ((zs_i σ53 1 9) - (zs_i σ53 1 8))] (zc_MN_add hJ hc60) (cwV 3 hts (zs_gV zm_604 zm_605 zm_606 zm_602 zm_603) rfl rfl rfl (by decide +kernel) ⟨Nat.le_trans (by decide) hR1, Nat.le_trans (by decide) hR2⟩) hs61 rfl rfl hl.1 (Nat.le_of_ble_eq_true rfl) d_M_thread_166 ⟨Nat.zero_le _, Nat.zero_le _⟩) (fun H locs hw => ?_)
              refine lv_aload_n hx hb d_M_thread_169 rfl (lv_at hl 0 rfl) ?_
              obtain ⟨σ62, hc64, hf⟩ := zq_ds hf
              refine zr_cv hw (zr_runV (rest := []) (ci := 8) (o := 1) G hw [] (zc_M_step hJ hc64) (cwV 0 hts (zs_gV zm_572 zm_573 zm_574 zm_551 zm_571) rfl rfl rfl (by decide +kernel) ⟨Nat.le_trans (by decide) hR1, Nat.le_trans (by decide) hR2⟩) rfl rfl rfl hl.1 (Nat.le_of_ble_eq_true rfl) d_M_thread_170 ⟨Nat.zero_le _, Nat.zero_le _⟩) (fun H locs hw => ?_)
              refine lv_aload_n hx hb d_M_thread_173 rfl (lv_at hl 0 rfl) ?_
              refine va_ldcS (own := "ScheduleCheckModel") (tx := ";") (q := ad 1316) hx hb hown ((G.2.2.2.2 rfl).2.2.1 16 (by decide)) d_M_thread_174 ?_
              obtain ⟨r66, σ65, hc67, hf⟩ := zq_cs hf
              refine zr_ci hw (zr_runV (rest := []) (ci := 8) (o := 1) G hw [.ref (ad 1316)] (zc_M_take hJ hc67) (cwV 1 hts (zs_gV zm_609 zm_610 zm_611 zm_551 zm_608) rfl rfl rfl (by decide +kernel) ⟨Nat.le_trans (by decide) hR1, Nat.le_trans (by decide) hR2⟩) rfl rfl rfl hl.1 (Nat.le_of_ble_eq_true rfl) d_M_thread_176 ⟨Nat.zero_le _, Nat.zero_le _⟩) (fun H locs hw => ?_)
              refine lv_if_ne hx hb d_M_thread_179 (tgt := 82) rfl (fun hc => ?_) (fun hc => ?_)
              · have hf := (if_neg hc).symm.trans hf
                exact ih x1 σ65 H locs ls hf hw (lv_sub hl [0, 1] rfl)
              · have hf := (if_pos hc).symm.trans hf
                refine lv_iconst (v := 0) hx hb d_M_thread_182 (by decide) ?_
                exact zr_zret G hw hr hlocks (by decide) hf hQ d_M_thread_183
            · have hf := (if_neg hc).symm.trans hf
              exact K140 σ53 H locs ls hf hw (lv_sub hl [0] rfl)
  have K20 : ∀ (σ : zs_S) (H : Heap) (locs : List Loc) (ls : Array Slot), zf_M_thread_20 F σ = some q → zs_I 1 D cA ad A s σ H locs → lv_has ls 2 [(0, .ref (ad 1))] → W p l e RR s m args below meth c H locs 0 0 QQ (F0 m 20 ls []) := by
    intro   σ H locs ls hf hw hl
    unfold zf_M_thread_20 at hf
    refine lv_aload_n hx hb d_M_thread_20 rfl (lv_at hl 0 rfl) ?_
    obtain ⟨r29, σ28, hc30, hf⟩ := zq_cs hf
    refine zr_ci hw (zr_runV (rest := []) (ci := 8) (o := 1) G hw [] (zc_M_bad hJ hc30) (cwV 0 hts (zs_gV zm_576 zm_577 zm_578 zm_551 zm_575) rfl rfl rfl (by decide +kernel) ⟨Nat.le_trans (by decide) hR1, Nat.le_trans (by decide) hR2⟩) rfl rfl rfl hl.1 (Nat.le_of_ble_eq_true rfl) d_M_thread_21 ⟨Nat.zero_le _, Nat.zero_le _⟩) (fun H locs hw => ?_)
    obtain ⟨hz, hf⟩ := zq_gs hf
    exact zr_zret G hw hr hlocks hz hf hQ d_M_thread_24
  unfold zf_M_thread at hf
  refine lv_aload_n hx hb d_M_thread_0 rfl (lv_at hl 0 rfl) ?_
  refine va_ldcS (own := "ScheduleCheckModel") (tx := "thread") (q := ad 1302) hx hb hown ((G.2.2.2.2 rfl).2.2.1 2 (by decide)) d_M_thread_1 ?_
  obtain ⟨r2, σ1, hc3, hf⟩ := zq_cs hf
  refine zr_ci hw (zr_runV (rest := []) (ci := 8) (o := 1) G hw [.ref (ad 1302)] (zc_M_is hJ hc3) (cwV 1 hts (zs_gV zm_568 zm_569 zm_570 zm_551 zm_567) rfl rfl rfl (by decide +kernel) ⟨Nat.le_trans (by decide) hR1, Nat.le_trans (by decide) hR2⟩) rfl rfl rfl hl.1 (Nat.le_of_ble_eq_true rfl) d_M_thread_3 ⟨Nat.zero_le _, Nat.zero_le _⟩) (fun H locs hw => ?_)
  refine lv_if_eq hx hb d_M_thread_6 (tgt := 20) rfl (fun hc => ?_) (fun hc => ?_)
  · have hf := (if_pos hc).symm.trans hf
    exact K20 σ1 H locs ls hf hw (lv_sub hl [0] rfl)
  · have hf := (if_neg hc).symm.trans hf
    refine lv_aload_n hx hb d_M_thread_9 rfl (lv_at hl 0 rfl) ?_
    obtain ⟨q4, e_q4, h_q4, hf⟩ := zq_qs hf
    refine zr_get (ci := 8) G hw 1 12 zi_8 rfl rfl rfl (by decide) zm_583 (fun _ h => h) (v := .ref (ad q4)) (zs_fr rfl e_q4 h_q4) d_M_thread_10 ?_
    obtain ⟨hs5, hf⟩ := zq_gs hf
    have hs5 := zq_ks hs5
    refine zr_get (ci := 9) G hw q4 5 zi_9 hs5 rfl rfl (by decide) zm_646 (fun _ h => h) (v := .int (zs_i σ1 q4 5)) rfl d_M_thread_13 ?_
    refine lv_iconst (v := 4) hx hb d_M_thread_16 (by decide) ?_
    refine lv_icmp_ne hx hb d_M_thread_17 (tgt := 25) rfl (fun hc => ?_) (fun hc => ?_)
    · have hf := (if_neg hc).symm.trans hf
      refine lv_aload_n hx hb d_M_thread_25 rfl (lv_at hl 0 rfl) ?_
      obtain ⟨σ6, hc8, hf⟩ := zq_ds hf
      refine zr_cv hw (zr_runV (rest := []) (ci := 8) (o := 1) G hw [] (zc_M_step hJ hc8) (cwV 0 hts (zs_gV zm_572 zm_573 zm_574 zm_551 zm_571) rfl rfl rfl (by decide +kernel) ⟨Nat.le_trans (by decide) hR1, Nat.le_trans (by decide) hR2⟩) rfl rfl rfl hl.1 (Nat.le_of_ble_eq_true rfl) d_M_thread_26 ⟨Nat.zero_le _, Nat.zero_le _⟩) (fun H locs hw => ?_)
      refine lv_aload_n hx hb d_M_thread_29 rfl (lv_at hl 0 rfl) ?_
      refine va_ldcS (own := "ScheduleCheckModel") (tx := "{") (q := ad 1317) hx hb hown ((G.2.2.2.2 rfl).2.2.1 17 (by decide)) d_M_thread_30 ?_
      obtain ⟨r10, σ9, hc11, hf⟩ := zq_cs hf
      refine zr_ci hw (zr_runV (rest := []) (ci := 8) (o := 1) G hw [.ref (ad 1317)] (zc_M_take hJ hc11) (cwV 1 hts (zs_gV zm_609 zm_610 zm_611 zm_551 zm_608) rfl rfl rfl (by decide +kernel) ⟨Nat.le_trans (by decide) hR1, Nat.le_trans (by decide) hR2⟩) rfl rfl rfl hl.1 (Nat.le_of_ble_eq_true rfl) d_M_thread_32 ⟨Nat.zero_le _, Nat.zero_le _⟩) (fun H locs hw => ?_)
      refine lv_if_ne hx hb d_M_thread_35 (tgt := 40) rfl (fun hc => ?_) (fun hc => ?_)
      · have hf := (if_neg hc).symm.trans hf
        refine lv_aload_n hx hb d_M_thread_40 rfl (lv_at hl 0 rfl) ?_
        obtain ⟨q12, e_q12, h_q12, hf⟩ := zq_qs hf
        refine zr_get (ci := 8) G hw 1 12 zi_8 rfl rfl rfl (by decide) zm_583 (fun _ h => h) (v := .ref (ad q12)) (zs_fr rfl e_q12 h_q12) d_M_thread_41 ?_
        obtain ⟨hs13, hf⟩ := zq_gs hf
        have hs13 := zq_ks hs13
        refine zr_get (ci := 9) G hw q12 5 zi_9 hs13 rfl rfl (by decide) zm_646 (fun _ h => h) (v := .int (zs_i σ9 q12 5)) rfl d_M_thread_44 ?_
        refine lv_topi (fun v14 e_v14 => ?_)
        have hf := zq_vs e_v14 hf
        refine lv_istore_n hx hb d_M_thread_47 rfl hl (by decide) rfl (fun ls hl => ?_)
        have hl : lv_has ls 2 [(1, .int v14), (0, .ref (ad 1))] := hl
        refine lv_aload_n hx hb d_M_thread_48 rfl (lv_at hl 1 rfl) ?_
        refine lv_aload_n hx hb d_M_thread_49 rfl (lv_at hl 1 rfl) ?_
        obtain ⟨q15, e_q15, h_q15, hf⟩ := zq_qs hf
        refine zr_get (ci := 8) G hw 1 12 zi_8 rfl rfl rfl (by decide) zm_583 (fun _ h => h) (v := .ref (ad q15)) (zs_fr rfl e_q15 h_q15) d_M_thread_50 ?_
        obtain ⟨hs16, hf⟩ := zq_gs hf
        have hs16 := zq_ks hs16
        obtain ⟨q17, e_q17, h_q17, hf⟩ := zq_qs hf
        refine zr_get (ci := 9) G hw q15 2 zi_9 hs16 rfl rfl (by decide) zm_727 (fun _ h => h) (v := .ref (ad q17)) (zs_fs rfl e_q17 h_q17) d_M_thread_53 ?_
        refine lv_iload_n hx hb d_M_thread_56 rfl (lv_at hl 0 rfl) ?_
        obtain ⟨hs18, hf⟩ := zq_gs hf
        have hs18 := zq_ks hs18
        obtain ⟨hi19, hf⟩ := zq_gs hf
        obtain ⟨q20, e_q20, h_q20, hf⟩ := zq_qs hf
        refine zr_aald6 G hw q17 hs18 rfl hi19 (by rw [← e_q20]; exact h_q20) d_M_thread_57 ?_
        rw [← e_q20]
        obtain ⟨σ21, e_σ21, hf⟩ := zq_ss hf
        refine zr_putr (ci := 8) G hw 1 13 zi_8 t_zd8 t_zd8_ok n_zd8 rfl rfl rfl (by decide) rfl zm_701 (fun _ h => h) rfl (x := q20) h_q20 (t_zd8_ok 13 (by decide)) rfl rfl d_M_thread_58 (fun H locs hw => ?_)
        rw [← e_σ21] at hw
        refine lv_aload_n hx hb d_M_thread_61 rfl (lv_at hl 1 rfl) ?_
        obtain ⟨q22, e_q22, h_q22, hf⟩ := zq_qs hf
        refine zr_get (ci := 8) G hw 1 13 zi_8 rfl rfl rfl (by decide) zm_701 (fun _ h => h) (v := .ref (ad q22)) (zs_fr rfl e_q22 h_q22) d_M_thread_62 ?_
        refine lv_iconst (v := 0) hx hb d_M_thread_65 (by decide) ?_
        obtain ⟨hs23, hf⟩ := zq_gs hf
        have hs23 := zq_ks hs23
        obtain ⟨σ24, e_σ24, hf⟩ := zq_ss hf
        refine zr_puti (ci := 10) G hw q22 2 zi_10 t_zd10 t_zd10_ok n_zd10 hs23 rfl rfl (by decide) rfl zm_596 (fun _ h => h) rfl (x := 0) (t_zd10_ok 2 (by decide)) rfl rfl d_M_thread_66 (fun H locs hw => ?_)
        rw [← e_σ24] at hw
        refine lv_aload_n hx hb d_M_thread_69 rfl (lv_at hl 1 rfl) ?_
        obtain ⟨q25, e_q25, h_q25, hf⟩ := zq_qs hf
        refine zr_get (ci := 8) G hw 1 12 zi_8 rfl rfl rfl (by decide) zm_583 (fun _ h => h) (v := .ref (ad q25)) (zs_fr rfl e_q25 h_q25) d_M_thread_70 ?_
        refine lv_dup hx hb d_M_thread_73 rfl ?_
        obtain ⟨hs26, hf⟩ := zq_gs hf
        have hs26 := zq_ks hs26
        refine zr_get (ci := 9) G hw q25 5 zi_9 hs26 rfl rfl (by decide) zm_646 (fun _ h => h) (v := .int (zs_i σ24 q25 5)) rfl d_M_thread_74 ?_
        refine lv_iconst (v := 1) hx hb d_M_thread_77 (by decide) ?_
        refine lv_iadd hx hb d_M_thread_78 ?_
        obtain ⟨σ27, e_σ27, hf⟩ := zq_ss hf
        refine zr_puti (ci := 9) G hw q25 5 zi_9 t_zd9 t_zd9_ok n_zd9 hs26 rfl rfl (by decide) rfl zm_646 (fun _ h => h) rfl (x := ((zs_i σ24 q25 5) + 1)) (t_zd9_ok 5 (by decide)) rfl rfl d_M_thread_79 (fun H locs hw => ?_)
        rw [← e_σ27] at hw
        exact K82 F v14 σ27 H locs ls hf hw (lv_sub hl [1, 0] rfl)
      · have hf := (if_pos hc).symm.trans hf
        refine lv_iconst (v := 0) hx hb d_M_thread_38 (by decide) ?_
        exact zr_zret G hw hr hlocks (by decide) hf hQ d_M_thread_39
    · have hf := (if_pos hc).symm.trans hf
      exact K20 σ1 H locs ls hf hw (lv_sub hl [0] rfl)
/-! ScheduleCheckModel.read -/
def y_M_read : MethodName := ⟨"ScheduleCheckModel","read","()Z"⟩
def zf_M_read_124 (F : Nat)  : Nat → zs_S → Option (Int32 × zs_S)
  | 0, _ => none
  | n + 1, σ =>
    zq_c (zf_M_thread F σ) fun r45 σ44 =>
    if r45 = 0 then (
      some (0, σ44)
    ) else (
      if (zs_i σ44 1 7) = 0 then (
        some (1, σ44)
      ) else (
        (zf_M_read_124 F n) σ44
      )
    )
def zf_M_read_109 (F : Nat) (k91 : zs_S → Option (Int32 × zs_S))  (σ : zs_S) : Option (Int32 × zs_S) :=
  zq_c (zf_M_is F 1300 σ) fun r39 σ38 =>
  zq_c (zf_M_declare F r39 σ38) fun r42 σ41 =>
  if r42 = 0 then (
    some (0, σ41)
  ) else (
    k91 σ41
  )
def zf_M_read_91 (F : Nat)  : Nat → zs_S → Option (Int32 × zs_S)
  | 0, _ => none
  | n + 1, σ =>
    zq_c (zf_M_is F 1300 σ) fun r33 σ32 =>
    if r33 = 0 then (
      zq_c (zf_M_is F 1301 σ32) fun r36 σ35 =>
      if r36 = 0 then (
        zf_M_read_124 F F σ35
      ) else (
        zf_M_read_109 F (zf_M_read_91 F n) σ35
      )
    ) else (
      zf_M_read_109 F (zf_M_read_91 F n) σ32
    )
def zf_M_read (F : Nat)  (σ : zs_S) : Option (Int32 × zs_S) :=
  zq_q (zs_r σ 1 3) fun q1 =>
  zq_g (zq_n q1) <|
  zq_v (zs_wr σ 1 12 q1) fun σ2 =>
  zq_q (zs_r σ2 1 12) fun q4 =>
  zq_g (zq_k 1 q4 19) <|
  zq_q (zd_rf 1 q4 0) fun q6 =>
  zq_g (zq_k 1 q6 20) <|
  zq_v (zs_wi σ2 q6 2 0) fun σ8 =>
  zq_q (zs_r σ8 1 12) fun q9 =>
  zq_g (zq_k 1 q9 19) <|
  zq_q (zd_rf 1 q9 1) fun q11 =>
  zq_g (zq_k 1 q11 20) <|
  zq_v (zs_wi σ8 q11 2 0) fun σ13 =>
  zq_q (zs_r σ13 1 12) fun q14 =>
  zq_g (zq_k 1 q14 19) <|
  zq_v (zs_wi σ13 q14 5 0) fun σ16 =>
  zq_q (zs_r σ16 1 12) fun q17 =>
  zq_g (zq_k 1 q17 19) <|
  zq_v (zs_wi σ16 q17 6 0) fun σ19 =>
  zq_q (zs_r σ19 1 12) fun q20 =>
  zq_g (zq_k 1 q20 19) <|
  zq_v (zs_wi σ19 q20 12 0) fun σ22 =>
  zq_v (zs_wi σ22 1 5 (zs_i σ22 1 1)) fun σ23 =>
  zq_v (zs_wi σ23 1 1 0) fun σ24 =>
  zq_v (zs_wi σ24 1 6 0) fun σ25 =>
  zq_v (zs_wi σ25 1 11 ((-1))) fun σ26 =>
  zq_v (zs_wi σ26 1 14 0) fun σ27 =>
  zq_v (zs_wi σ27 1 16 0) fun σ28 =>
  zq_d (zf_M_step F σ28) fun σ29 =>
  zf_M_read_91 F F σ29
set_option maxHeartbeats 4000000 in
set_option maxRecDepth 100000 in
theorem zc_M_read {l : Launch} {D : va_G} {cA : Nat → ClassId} {ad : Nat → Nat} {A : Nat → Prop} {F : Nat}  {σ : zs_S} {q : Int32 × zs_S} (hJ : zs_J ad) (hf : zf_M_read F  σ = some q) : Met l y_M_read (.code y_M_read prog_13_method_12_code 1 (some .boolean) :: zd_ww) { frames := 898, cells := 0, slots := 0, locals := 19237 } (va_Pc [.ref (ad 1)] (zs_U 1 D cA ad A σ)) (zs_Qi 1 D cA ad A q) 0 0 A := by
  refine Met.ofW (cc := prog_13_method_12_code) (maxL := 1) (ret := (some .boolean)) (by decide) rfl ?_
  intro p e s m args below meth c s₁ B hml hv
  obtain ⟨hargs, hP, hK, hD, hZ⟩ := hv
  have G : zs_G 1 p s m args c prog_13_method_12_code 1 "ScheduleCheckModel" D cA ad A := ⟨⟨B.exec, B.bytes, hml, findClass_of_methodNamed B.named, fun w h => atoms_spec B.pre w (List.mem_cons_of_mem _ h)⟩, hK, hJ, hZ⟩
  have hw : zs_I 1 D cA ad A s σ s.heap [] := ⟨hP, hD, va_S.rf⟩
  have hx := G.1.1
  have hb := G.1.2.1
  have hown := G.1.2.2.2.1
  have hts := G.1.2.2.2.2
  have hr := B.returns
  have hlocks := B.notSynchronized
  have he : entryFrame m args 1 = F0 m 0 ((lg_sl [.ref (ad 1)] ++ List.replicate (1 - (lg_sl [.ref (ad 1)]).length) Slot.unset).toArray) [] := by rw [hargs]; exact lg_entry_eq m _ 1
  have hl := lv_entry [.ref (ad 1)] (n := 1) (Nat.le_of_ble_eq_true rfl)
  rw [he]
  generalize (lg_sl [.ref (ad 1)] ++ List.replicate (1 - (lg_sl [.ref (ad 1)]).length) Slot.unset).toArray = ls at hl
  have hl : lv_has ls 1 [(0, .ref (ad 1))] := hl
  obtain ⟨RR, hR⟩ : ∃ z, z = (headSpec (.code y_M_read prog_13_method_12_code 1 (some .boolean) :: zd_ww) { frames := 898, cells := 0, slots := 0, locals := 19237 }).room := ⟨_, rfl⟩
  rw [← hR]
  obtain ⟨QQ, hQ⟩ : ∃ z, z = MQ below (zs_Qi 1 D cA ad A q) args s 0 0 A := ⟨_, rfl⟩
  rw [← hQ]
  have hR1 : 898 ≤ RR.frames := by rw [hR]; exact Nat.le_refl _
  have hR2 : 19237 ≤ RR.locals := by rw [hR]; exact Nat.le_refl _
  generalize s.heap = H at hw ⊢
  generalize ([] : List Loc) = locs at hw ⊢
  have K124 : ∀ (n : Nat) (σ : zs_S) (H : Heap) (locs : List Loc) (ls : Array Slot), zf_M_read_124 F n σ = some q → zs_I 1 D cA ad A s σ H locs → lv_has ls 1 [(0, .ref (ad 1))] → W p l e RR s m args below meth c H locs 0 0 QQ (F0 m 124 ls []) := by
    intro  n
    induction n with
    | zero => intro  σ H locs ls hf hw hl; exact nomatch (show (none : Option (Int32 × zs_S)) = some q from hf)
    | succ n ih =>
      intro  σ H locs ls hf hw hl
      rw [zf_M_read_124] at hf
      refine lv_aload_n hx hb d_M_read_124 rfl (lv_at hl 0 rfl) ?_
      obtain ⟨r45, σ44, hc46, hf⟩ := zq_cs hf
      refine zr_ci hw (zr_runV (rest := []) (ci := 8) (o := 1) G hw [] (zc_M_thread hJ hc46) (cwV 0 hts (zs_gV zm_734 zm_735 zm_736 zm_551 zm_733) rfl rfl rfl (by decide +kernel) ⟨Nat.le_trans (by decide) hR1, Nat.le_trans (by decide) hR2⟩) rfl rfl rfl hl.1 (Nat.le_of_ble_eq_true rfl) d_M_read_125 ⟨Nat.zero_le _, Nat.zero_le _⟩) (fun H locs hw => ?_)
      refine lv_if_ne hx hb d_M_read_128 (tgt := 133) rfl (fun hc => ?_) (fun hc => ?_)
      · have hf := (if_neg hc).symm.trans hf
        refine lv_aload_n hx hb d_M_read_133 rfl (lv_at hl 0 rfl) ?_
        refine zr_get (ci := 8) G hw 1 7 zi_8 rfl rfl rfl (by decide) zm_556 (fun _ h => h) (v := .int (zs_i σ44 1 7)) rfl d_M_read_134 ?_
        refine lv_if_ne hx hb d_M_read_137 (tgt := 124) rfl (fun hc => ?_) (fun hc => ?_)
        · have hf := (if_neg hc).symm.trans hf
          exact ih σ44 H locs ls hf hw (lv_sub hl [0] rfl)
        · have hf := (if_pos hc).symm.trans hf
          refine lv_iconst (v := 1) hx hb d_M_read_140 (by decide) ?_
          exact zr_zret G hw hr hlocks (by decide) hf hQ d_M_read_141
      · have hf := (if_pos hc).symm.trans hf
        refine lv_iconst (v := 0) hx hb d_M_read_131 (by decide) ?_
        exact zr_zret G hw hr hlocks (by decide) hf hQ d_M_read_132
  have K109 : ∀ (k91 : zs_S → Option (Int32 × zs_S)) (hk91 : ∀ (σ : zs_S) (H : Heap) (locs : List Loc) (ls : Array Slot), k91 σ = some q → zs_I 1 D cA ad A s σ H locs → lv_has ls 1 [(0, .ref (ad 1))] → W p l e RR s m args below meth c H locs 0 0 QQ (F0 m 91 ls [])) (σ : zs_S) (H : Heap) (locs : List Loc) (ls : Array Slot), zf_M_read_109 F k91 σ = some q → zs_I 1 D cA ad A s σ H locs → lv_has ls 1 [(0, .ref (ad 1))] → W p l e RR s m args below meth c H locs 0 0 QQ (F0 m 109 ls []) := by
    intro k91 hk91  σ H locs ls hf hw hl
    unfold zf_M_read_109 at hf
    refine lv_aload_n hx hb d_M_read_109 rfl (lv_at hl 0 rfl) ?_
    refine lv_aload_n hx hb d_M_read_110 rfl (lv_at hl 0 rfl) ?_
    refine va_ldcS (own := "ScheduleCheckModel") (tx := "var") (q := ad 1300) hx hb hown ((G.2.2.2.2 rfl).2.2.1 0 (by decide)) d_M_read_111 ?_
    obtain ⟨r39, σ38, hc40, hf⟩ := zq_cs hf
    refine zr_ci hw (zr_runV (rest := [.ref (ad 1)]) (ci := 8) (o := 1) G hw [.ref (ad 1300)] (zc_M_is hJ hc40) (cwV 1 hts (zs_gV zm_568 zm_569 zm_570 zm_551 zm_567) rfl rfl rfl (by decide +kernel) ⟨Nat.le_trans (by decide) hR1, Nat.le_trans (by decide) hR2⟩) rfl rfl rfl hl.1 (Nat.le_of_ble_eq_true rfl) d_M_read_113 ⟨Nat.zero_le _, Nat.zero_le _⟩) (fun H locs hw => ?_)
    obtain ⟨r42, σ41, hc43, hf⟩ := zq_cs hf
    refine zr_ci hw (zr_runV (rest := []) (ci := 8) (o := 1) G hw [.int r39] (zc_M_declare hJ hc43) (cwV 1 hts (zs_gV zm_730 zm_731 zm_732 zm_551 zm_729) rfl rfl rfl (by decide +kernel) ⟨Nat.le_trans (by decide) hR1, Nat.le_trans (by decide) hR2⟩) rfl rfl rfl hl.1 (Nat.le_of_ble_eq_true rfl) d_M_read_116 ⟨Nat.zero_le _, Nat.zero_le _⟩) (fun H locs hw => ?_)
    refine lv_if_ne hx hb d_M_read_119 (tgt := 91) rfl (fun hc => ?_) (fun hc => ?_)
    · have hf := (if_neg hc).symm.trans hf
      exact hk91 σ41 H locs ls hf hw (lv_sub hl [0] rfl)
    · have hf := (if_pos hc).symm.trans hf
      refine lv_iconst (v := 0) hx hb d_M_read_122 (by decide) ?_
      exact zr_zret G hw hr hlocks (by decide) hf hQ d_M_read_123
  have K91 : ∀ (n : Nat) (σ : zs_S) (H : Heap) (locs : List Loc) (ls : Array Slot), zf_M_read_91 F n σ = some q → zs_I 1 D cA ad A s σ H locs → lv_has ls 1 [(0, .ref (ad 1))] → W p l e RR s m args below meth c H locs 0 0 QQ (F0 m 91 ls []) := by
    intro  n
    induction n with
    | zero => intro  σ H locs ls hf hw hl; exact nomatch (show (none : Option (Int32 × zs_S)) = some q from hf)
    | succ n ih =>
      intro  σ H locs ls hf hw hl
      rw [zf_M_read_91] at hf
      refine lv_aload_n hx hb d_M_read_91 rfl (lv_at hl 0 rfl) ?_
      refine va_ldcS (own := "ScheduleCheckModel") (tx := "var") (q := ad 1300) hx hb hown ((G.2.2.2.2 rfl).2.2.1 0 (by decide)) d_M_read_92 ?_
      obtain ⟨r33, σ32, hc34, hf⟩ := zq_cs hf
      refine zr_ci hw (zr_runV (rest := []) (ci := 8) (o := 1) G hw [.ref (ad 1300)] (zc_M_is hJ hc34) (cwV 1 hts (zs_gV zm_568 zm_569 zm_570 zm_551 zm_567) rfl rfl rfl (by decide +kernel) ⟨Nat.le_trans (by decide) hR1, Nat.le_trans (by decide) hR2⟩) rfl rfl rfl hl.1 (Nat.le_of_ble_eq_true rfl) d_M_read_94 ⟨Nat.zero_le _, Nat.zero_le _⟩) (fun H locs hw => ?_)
      refine lv_if_ne hx hb d_M_read_97 (tgt := 109) rfl (fun hc => ?_) (fun hc => ?_)
      · have hf := (if_neg hc).symm.trans hf
        exact K109 (zf_M_read_91 F n) ih σ32 H locs ls hf hw (lv_sub hl [0] rfl)
      · have hf := (if_pos hc).symm.trans hf
        refine lv_aload_n hx hb d_M_read_100 rfl (lv_at hl 0 rfl) ?_
        refine va_ldcS (own := "ScheduleCheckModel") (tx := "lock") (q := ad 1301) hx hb hown ((G.2.2.2.2 rfl).2.2.1 1 (by decide)) d_M_read_101 ?_
        obtain ⟨r36, σ35, hc37, hf⟩ := zq_cs hf
        refine zr_ci hw (zr_runV (rest := []) (ci := 8) (o := 1) G hw [.ref (ad 1301)] (zc_M_is hJ hc37) (cwV 1 hts (zs_gV zm_568 zm_569 zm_570 zm_551 zm_567) rfl rfl rfl (by decide +kernel) ⟨Nat.le_trans (by decide) hR1, Nat.le_trans (by decide) hR2⟩) rfl rfl rfl hl.1 (Nat.le_of_ble_eq_true rfl) d_M_read_103 ⟨Nat.zero_le _, Nat.zero_le _⟩) (fun H locs hw => ?_)
        refine lv_if_eq hx hb d_M_read_106 (tgt := 124) rfl (fun hc => ?_) (fun hc => ?_)
        · have hf := (if_pos hc).symm.trans hf
          exact K124 F σ35 H locs ls hf hw (lv_sub hl [0] rfl)
        · have hf := (if_neg hc).symm.trans hf
          exact K109 (zf_M_read_91 F n) ih σ35 H locs ls hf hw (lv_sub hl [0] rfl)
  unfold zf_M_read at hf
  refine lv_aload_n hx hb d_M_read_0 rfl (lv_at hl 0 rfl) ?_
  refine lv_aload_n hx hb d_M_read_1 rfl (lv_at hl 0 rfl) ?_
  obtain ⟨q1, e_q1, h_q1, hf⟩ := zq_qs hf
  refine zr_get (ci := 8) G hw 1 3 zi_8 rfl rfl rfl (by decide) zm_728 (fun _ h => h) (v := .ref (ad q1)) (zs_fr rfl e_q1 h_q1) d_M_read_2 ?_
  obtain ⟨hn3, hf⟩ := zq_gs hf
  have hn3 := zq_ns hn3
  obtain ⟨σ2, e_σ2, hf⟩ := zq_ss hf
  refine zr_putr (ci := 8) G hw 1 12 zi_8 t_zd8 t_zd8_ok n_zd8 rfl rfl rfl (by decide) rfl zm_583 (fun _ h => h) rfl (x := q1) hn3 (t_zd8_ok 12 (by decide)) rfl rfl d_M_read_5 (fun H locs hw => ?_)
  rw [← e_σ2] at hw
  refine lv_aload_n hx hb d_M_read_8 rfl (lv_at hl 0 rfl) ?_
  obtain ⟨q4, e_q4, h_q4, hf⟩ := zq_qs hf
  refine zr_get (ci := 8) G hw 1 12 zi_8 rfl rfl rfl (by decide) zm_583 (fun _ h => h) (v := .ref (ad q4)) (zs_fr rfl e_q4 h_q4) d_M_read_9 ?_
  obtain ⟨hs5, hf⟩ := zq_gs hf
  have hs5 := zq_ks hs5
  obtain ⟨q6, e_q6, h_q6, hf⟩ := zq_qs hf
  refine zr_get (ci := 9) G hw q4 0 zi_9 hs5 rfl rfl (by decide) zm_591 (fun _ h => h) (v := .ref (ad q6)) (zs_fs rfl e_q6 h_q6) d_M_read_12 ?_
  refine lv_iconst (v := 0) hx hb d_M_read_15 (by decide) ?_
  obtain ⟨hs7, hf⟩ := zq_gs hf
  have hs7 := zq_ks hs7
  obtain ⟨σ8, e_σ8, hf⟩ := zq_ss hf
  refine zr_puti (ci := 10) G hw q6 2 zi_10 t_zd10 t_zd10_ok n_zd10 hs7 rfl rfl (by decide) rfl zm_596 (fun _ h => h) rfl (x := 0) (t_zd10_ok 2 (by decide)) rfl rfl d_M_read_16 (fun H locs hw => ?_)
  rw [← e_σ8] at hw
  refine lv_aload_n hx hb d_M_read_19 rfl (lv_at hl 0 rfl) ?_
  obtain ⟨q9, e_q9, h_q9, hf⟩ := zq_qs hf
  refine zr_get (ci := 8) G hw 1 12 zi_8 rfl rfl rfl (by decide) zm_583 (fun _ h => h) (v := .ref (ad q9)) (zs_fr rfl e_q9 h_q9) d_M_read_20 ?_
  obtain ⟨hs10, hf⟩ := zq_gs hf
  have hs10 := zq_ks hs10
  obtain ⟨q11, e_q11, h_q11, hf⟩ := zq_qs hf
  refine zr_get (ci := 9) G hw q9 1 zi_9 hs10 rfl rfl (by decide) zm_590 (fun _ h => h) (v := .ref (ad q11)) (zs_fs rfl e_q11 h_q11) d_M_read_23 ?_
  refine lv_iconst (v := 0) hx hb d_M_read_26 (by decide) ?_
  obtain ⟨hs12, hf⟩ := zq_gs hf
  have hs12 := zq_ks hs12
  obtain ⟨σ13, e_σ13, hf⟩ := zq_ss hf
  refine zr_puti (ci := 10) G hw q11 2 zi_10 t_zd10 t_zd10_ok n_zd10 hs12 rfl rfl (by decide) rfl zm_596 (fun _ h => h) rfl (x := 0) (t_zd10_ok 2 (by decide)) rfl rfl d_M_read_27 (fun H locs hw => ?_)
  rw [← e_σ13] at hw
  refine lv_aload_n hx hb d_M_read_30 rfl (lv_at hl 0 rfl) ?_
  obtain ⟨q14, e_q14, h_q14, hf⟩ := zq_qs hf
  refine zr_get (ci := 8) G hw 1 12 zi_8 rfl rfl rfl (by decide) zm_583 (fun _ h => h) (v := .ref (ad q14)) (zs_fr rfl e_q14 h_q14) d_M_read_31 ?_
  refine lv_iconst (v := 0) hx hb d_M_read_34 (by decide) ?_
  obtain ⟨hs15, hf⟩ := zq_gs hf
  have hs15 := zq_ks hs15
  obtain ⟨σ16, e_σ16, hf⟩ := zq_ss hf
  refine zr_puti (ci := 9) G hw q14 5 zi_9 t_zd9 t_zd9_ok n_zd9 hs15 rfl rfl (by decide) rfl zm_646 (fun _ h => h) rfl (x := 0) (t_zd9_ok 5 (by decide)) rfl rfl d_M_read_35 (fun H locs hw => ?_)
  rw [← e_σ16] at hw
  refine lv_aload_n hx hb d_M_read_38 rfl (lv_at hl 0 rfl) ?_
  obtain ⟨q17, e_q17, h_q17, hf⟩ := zq_qs hf
  refine zr_get (ci := 8) G hw 1 12 zi_8 rfl rfl rfl (by decide) zm_583 (fun _ h => h) (v := .ref (ad q17)) (zs_fr rfl e_q17 h_q17) d_M_read_39 ?_
  refine lv_iconst (v := 0) hx hb d_M_read_42 (by decide) ?_
  obtain ⟨hs18, hf⟩ := zq_gs hf
  have hs18 := zq_ks hs18
  obtain ⟨σ19, e_σ19, hf⟩ := zq_ss hf
  refine zr_puti (ci := 9) G hw q17 6 zi_9 t_zd9 t_zd9_ok n_zd9 hs18 rfl rfl (by decide) rfl zm_722 (fun _ h => h) rfl (x := 0) (t_zd9_ok 6 (by decide)) rfl rfl d_M_read_43 (fun H locs hw => ?_)
  rw [← e_σ19] at hw
  refine lv_aload_n hx hb d_M_read_46 rfl (lv_at hl 0 rfl) ?_
  obtain ⟨q20, e_q20, h_q20, hf⟩ := zq_qs hf
  refine zr_get (ci := 8) G hw 1 12 zi_8 rfl rfl rfl (by decide) zm_583 (fun _ h => h) (v := .ref (ad q20)) (zs_fr rfl e_q20 h_q20) d_M_read_47 ?_
  refine lv_iconst (v := 0) hx hb d_M_read_50 (by decide) ?_
  obtain ⟨hs21, hf⟩ := zq_gs hf
  have hs21 := zq_ks hs21
  obtain ⟨σ22, e_σ22, hf⟩ := zq_ss hf
  refine zr_puti (ci := 9) G hw q20 12 zi_9 t_zd9 t_zd9_ok n_zd9 hs21 rfl rfl (by decide) rfl zm_585 (fun _ h => h) rfl (x := 0) (t_zd9_ok 12 (by decide)) rfl rfl d_M_read_51 (fun H locs hw => ?_)
  rw [← e_σ22] at hw
  refine lv_aload_n hx hb d_M_read_54 rfl (lv_at hl 0 rfl) ?_
  refine lv_aload_n hx hb d_M_read_55 rfl (lv_at hl 0 rfl) ?_
  refine zr_get (ci := 8) G hw 1 1 zi_8 rfl rfl rfl (by decide) zm_612 (fun _ h => h) (v := .int (zs_i σ22 1 1)) rfl d_M_read_56 ?_
  obtain ⟨σ23, e_σ23, hf⟩ := zq_ss hf
  refine zr_puti (ci := 8) G hw 1 5 zi_8 t_zd8 t_zd8_ok n_zd8 rfl rfl rfl (by decide) rfl zm_546 (fun _ h => h) rfl (x := (zs_i σ22 1 1)) (t_zd8_ok 5 (by decide)) rfl rfl d_M_read_59 (fun H locs hw => ?_)
  rw [← e_σ23] at hw
  refine lv_aload_n hx hb d_M_read_62 rfl (lv_at hl 0 rfl) ?_
  refine lv_iconst (v := 0) hx hb d_M_read_63 (by decide) ?_
  obtain ⟨σ24, e_σ24, hf⟩ := zq_ss hf
  refine zr_puti (ci := 8) G hw 1 1 zi_8 t_zd8 t_zd8_ok n_zd8 rfl rfl rfl (by decide) rfl zm_612 (fun _ h => h) rfl (x := 0) (t_zd8_ok 1 (by decide)) rfl rfl d_M_read_64 (fun H locs hw => ?_)
  rw [← e_σ24] at hw
  refine lv_aload_n hx hb d_M_read_67 rfl (lv_at hl 0 rfl) ?_
  refine lv_iconst (v := 0) hx hb d_M_read_68 (by decide) ?_
  obtain ⟨σ25, e_σ25, hf⟩ := zq_ss hf
  refine zr_puti (ci := 8) G hw 1 6 zi_8 t_zd8 t_zd8_ok n_zd8 rfl rfl rfl (by decide) rfl zm_545 (fun _ h => h) rfl (x := 0) (t_zd8_ok 6 (by decide)) rfl rfl d_M_read_69 (fun H locs hw => ?_)
  rw [← e_σ25] at hw
  refine lv_aload_n hx hb d_M_read_72 rfl (lv_at hl 0 rfl) ?_
  refine lv_iconst (v := (-1)) hx hb d_M_read_73 (by decide) ?_
  obtain ⟨σ26, e_σ26, hf⟩ := zq_ss hf
  refine zr_puti (ci := 8) G hw 1 11 zi_8 t_zd8 t_zd8_ok n_zd8 rfl rfl rfl (by decide) rfl zm_543 (fun _ h => h) rfl (x := ((-1))) (t_zd8_ok 11 (by decide)) rfl rfl d_M_read_74 (fun H locs hw => ?_)
  rw [← e_σ26] at hw
  refine lv_aload_n hx hb d_M_read_77 rfl (lv_at hl 0 rfl) ?_
  refine lv_iconst (v := 0) hx hb d_M_read_78 (by decide) ?_
  obtain ⟨σ27, e_σ27, hf⟩ := zq_ss hf
  refine zr_puti (ci := 8) G hw 1 14 zi_8 t_zd8 t_zd8_ok n_zd8 rfl rfl rfl (by decide) rfl zm_700 (fun _ h => h) rfl (x := 0) (t_zd8_ok 14 (by decide)) rfl rfl d_M_read_79 (fun H locs hw => ?_)
  rw [← e_σ27] at hw
  refine lv_aload_n hx hb d_M_read_82 rfl (lv_at hl 0 rfl) ?_
  refine lv_iconst (v := 0) hx hb d_M_read_83 (by decide) ?_
  obtain ⟨σ28, e_σ28, hf⟩ := zq_ss hf
  refine zr_puti (ci := 8) G hw 1 16 zi_8 t_zd8 t_zd8_ok n_zd8 rfl rfl rfl (by decide) rfl zm_586 (fun _ h => h) rfl (x := 0) (t_zd8_ok 16 (by decide)) rfl rfl d_M_read_84 (fun H locs hw => ?_)
  rw [← e_σ28] at hw
  refine lv_aload_n hx hb d_M_read_87 rfl (lv_at hl 0 rfl) ?_
  obtain ⟨σ29, hc31, hf⟩ := zq_ds hf
  refine zr_cv hw (zr_runV (rest := []) (ci := 8) (o := 1) G hw [] (zc_M_step hJ hc31) (cwV 0 hts (zs_gV zm_572 zm_573 zm_574 zm_551 zm_571) rfl rfl rfl (by decide +kernel) ⟨Nat.le_trans (by decide) hR1, Nat.le_trans (by decide) hR2⟩) rfl rfl rfl hl.1 (Nat.le_of_ble_eq_true rfl) d_M_read_88 ⟨Nat.zero_le _, Nat.zero_le _⟩) (fun H locs hw => ?_)
  exact K91 F σ29 H locs ls hf hw (lv_sub hl [0] rfl)
/-! ScheduleCheckModel.check -/
def y_M_check : MethodName := ⟨"ScheduleCheckModel","check","()I"⟩
def zf_M_check_292 (F : Nat) (k189 : zs_S → Option (Int32 × zs_S)) (k239 : zs_S → Option (Int32 × zs_S))  (σ : zs_S) : Option (Int32 × zs_S) :=
  zq_v (zs_wi σ 1 29 ((zs_i σ 1 29) + 1)) fun σ71 =>
  k239 σ71
def zf_M_check_239 (F : Nat) (k189 : zs_S → Option (Int32 × zs_S)) : Nat → zs_S → Option (Int32 × zs_S)
  | 0, _ => none
  | n + 1, σ =>
    zq_q (zs_r σ 1 2) fun q59 =>
    zq_g (zq_k 1 q59 19) <|
    if (zs_i σ q59 5) ≤ (zs_i σ 1 29) then (
      zq_v (zs_wi σ 1 28 ((zs_i σ 1 28) + 1)) fun σ61 =>
      k189 σ61
    ) else (
      zq_c (zf_M_isReady F (zs_i σ 1 29) σ) fun r63 σ62 =>
      if r63 = 0 then (
        zf_M_check_292 F k189 (zf_M_check_239 F k189 n) σ62
      ) else (
        zq_c (zf_M_move F σ62) fun r66 σ65 =>
        if r66 = 0 then (
          zq_v (zs_wi σ65 1 23 0) fun σ68 =>
          zq_v (zs_wi σ68 1 24 0) fun σ69 =>
          zq_v (zs_wi σ69 1 4 0) fun σ70 =>
          some ((-3), σ70)
        ) else (
          zf_M_check_292 F k189 (zf_M_check_239 F k189 n) σ65
        )
      )
    )
def zf_M_check_189 (F : Nat)  : Nat → zs_S → Option (Int32 × zs_S)
  | 0, _ => none
  | n + 1, σ =>
    if (zs_i σ 1 23) ≤ (zs_i σ 1 28) then (
      zq_g (zq_b (zs_i σ 1 23) 802) <|
      zq_v (zs_wi σ 62 ((zs_i σ 1 23).toNatClampNeg) (zs_i σ 1 24)) fun σ53 =>
      some ((-2), σ53)
    ) else (
      zq_g (zq_b (zs_i σ 1 28) 802) <|
      zq_v (zs_wi σ 62 ((zs_i σ 1 28).toNatClampNeg) (zs_i σ 1 24)) fun σ55 =>
      zq_g (zq_cp 0 σ55 58 (34 * (zs_i σ55 1 28)) 0 34 27234 34) <|
      zq_v (zs_cp σ55 58 64 (34 * (zs_i σ55 1 28) : Int32).toNatClampNeg (0 : Int32).toNatClampNeg (34 : Int32).toNatClampNeg) fun σ57 =>
      zq_v (zs_wi σ57 1 29 0) fun σ58 =>
      zf_M_check_239 F (zf_M_check_189 F n) F σ58
    )
def zf_M_check_164 (F : Nat) (k125 : Int32 → zs_S → Option (Int32 × zs_S)) (x2 : Int32) (t0 : Int32) (t1 : Int32) (σ : zs_S) : Option (Int32 × zs_S) :=
  zq_g (zq_b t1 34) <|
  zq_v (zs_wi σ 65 ((t1).toNatClampNeg) t0) fun σ50 =>
  zq_v (x2 + 1) fun v51 =>
  k125 v51 σ50
def zf_M_check_125 (F : Nat)  : Nat → Int32 → zs_S → Option (Int32 × zs_S)
  | 0, _, _ => none
  | n + 1, x2, σ =>
    if 4 ≤ x2 then (
      zq_g (zq_b 33 34) <|
      zq_v (zs_wi σ 65 ((33 : Int32).toNatClampNeg) ((-1))) fun σ34 =>
      zq_c (zf_M_reach F σ34) fun r36 σ35 =>
      zq_v (zs_wi σ35 1 28 0) fun σ38 =>
      zf_M_check_189 F F σ38
    ) else (
      zq_c (zf_M_each F x2 σ) fun r40 σ39 =>
      zq_q (zs_r σ39 1 2) fun q42 =>
      zq_g (zq_k 1 q42 19) <|
      if (zs_i σ39 q42 5) ≤ x2 then (
        zf_M_check_164 F (zf_M_check_125 F n) x2 ((-1)) (r40 + 3) σ39
      ) else (
        zq_q (zs_r σ39 1 2) fun q44 =>
        zq_g (zq_k 1 q44 19) <|
        zq_q (zd_rf 1 q44 4) fun q46 =>
        zq_g (zq_k 1 q46 0) <|
        zq_g (zq_b x2 (zd_sh 1 q46).2) <|
        zf_M_check_164 F (zf_M_check_125 F n) x2 (zs_i σ39 q46 (x2).toNatClampNeg) (r40 + 3) σ39
      )
    )
def zf_M_check_102 (F : Nat)  : Nat → Int32 → zs_S → Option (Int32 × zs_S)
  | 0, _, _ => none
  | n + 1, x2, σ =>
    if 4 ≤ x2 then (
      zf_M_check_125 F F 0 σ
    ) else (
      zq_g (zq_b (8 + x2) 34) <|
      zq_v (zs_wi σ 65 ((8 + x2).toNatClampNeg) ((-1))) fun σ31 =>
      zq_v (x2 + 1) fun v32 =>
      (zf_M_check_102 F n) v32 σ31
    )
def zf_M_check_65 (F : Nat)  : Nat → Int32 → zs_S → Option (Int32 × zs_S)
  | 0, _, _ => none
  | n + 1, x2, σ =>
    zq_q (zs_r σ 1 2) fun q18 =>
    zq_g (zq_k 1 q18 19) <|
    zq_q (zd_rf 1 q18 0) fun q20 =>
    zq_g (zq_k 1 q20 20) <|
    if (zs_i σ q20 2) ≤ x2 then (
      zf_M_check_102 F F 0 σ
    ) else (
      zq_q (zs_r σ 1 2) fun q22 =>
      zq_g (zq_k 1 q22 19) <|
      zq_q (zd_rf 1 q22 3) fun q24 =>
      zq_g (zq_k 1 q24 0) <|
      zq_g (zq_b x2 (zd_sh 1 q24).2) <|
      zq_g (zq_b x2 34) <|
      zq_v (zs_wi σ 65 ((x2).toNatClampNeg) (zs_i σ q24 (x2).toNatClampNeg)) fun σ28 =>
      zq_v (x2 + 1) fun v29 =>
      (zf_M_check_65 F n) v29 σ28
    )
def zf_M_check (F : Nat)  (σ : zs_S) : Option (Int32 × zs_S) :=
  zq_c (zf_M_read F σ) fun r2 σ1 =>
  if r2 = 0 then (
    some (zs_i σ1 1 11, σ1)
  ) else (
    zq_q (zs_r σ1 1 2) fun q4 =>
    zq_q (zs_r σ1 1 3) fun q5 =>
    zq_g (zq_n q5) <|
    zq_v (zs_wr σ1 1 2 q5) fun σ6 =>
    zq_g (zq_n q4) <|
    zq_v (zs_wr σ6 1 3 q4) fun σ8 =>
    zq_v (zs_wi σ8 1 4 1) fun σ10 =>
    zq_v (zs_wi σ10 1 23 0) fun σ11 =>
    zq_v (zs_wi σ11 1 24 0) fun σ12 =>
    zq_v (zs_wi σ12 1 28 ((-1))) fun σ13 =>
    zq_v (zs_wi σ13 1 29 ((-1))) fun σ14 =>
    zq_d (zf_Arrays_fillI1 F 65 0 σ14) fun σ15 =>
    zf_M_check_65 F F 0 σ15
  )
set_option maxHeartbeats 4000000 in
set_option maxRecDepth 100000 in
theorem zc_M_check {l : Launch} {D : va_G} {cA : Nat → ClassId} {ad : Nat → Nat} {A : Nat → Prop} {F : Nat}  {σ : zs_S} {q : Int32 × zs_S} (hJ : zs_J ad) (hf : zf_M_check F  σ = some q) : Met l y_M_check (.code y_M_check prog_13_method_38_code 3 (some .int) :: zd_ww) { frames := 899, cells := 0, slots := 0, locals := 19257 } (va_Pc [.ref (ad 1)] (zs_U 1 D cA ad A σ)) (zs_Qi 1 D cA ad A q) 0 0 A := by
  refine Met.ofW (cc := prog_13_method_38_code) (maxL := 3) (ret := (some .int)) (by decide) rfl ?_
  intro p e s m args below meth c s₁ B hml hv
  obtain ⟨hargs, hP, hK, hD, hZ⟩ := hv
  have G : zs_G 1 p s m args c prog_13_method_38_code 3 "ScheduleCheckModel" D cA ad A := ⟨⟨B.exec, B.bytes, hml, findClass_of_methodNamed B.named, fun w h => atoms_spec B.pre w (List.mem_cons_of_mem _ h)⟩, hK, hJ, hZ⟩
  have hw : zs_I 1 D cA ad A s σ s.heap [] := ⟨hP, hD, va_S.rf⟩
  have hx := G.1.1
  have hb := G.1.2.1
  have hown := G.1.2.2.2.1
  have hts := G.1.2.2.2.2
  have hr := B.returns
  have hlocks := B.notSynchronized
  have he : entryFrame m args 3 = F0 m 0 ((lg_sl [.ref (ad 1)] ++ List.replicate (3 - (lg_sl [.ref (ad 1)]).length) Slot.unset).toArray) [] := by rw [hargs]; exact lg_entry_eq m _ 3
  have hl := lv_entry [.ref (ad 1)] (n := 3) (Nat.le_of_ble_eq_true rfl)
  rw [he]
  generalize (lg_sl [.ref (ad 1)] ++ List.replicate (3 - (lg_sl [.ref (ad 1)]).length) Slot.unset).toArray = ls at hl
  have hl : lv_has ls 3 [(0, .ref (ad 1))] := hl
  obtain ⟨RR, hR⟩ : ∃ z, z = (headSpec (.code y_M_check prog_13_method_38_code 3 (some .int) :: zd_ww) { frames := 899, cells := 0, slots := 0, locals := 19257 }).room := ⟨_, rfl⟩
  rw [← hR]
  obtain ⟨QQ, hQ⟩ : ∃ z, z = MQ below (zs_Qi 1 D cA ad A q) args s 0 0 A := ⟨_, rfl⟩
  rw [← hQ]
  have hR1 : 899 ≤ RR.frames := by rw [hR]; exact Nat.le_refl _
  have hR2 : 19257 ≤ RR.locals := by rw [hR]; exact Nat.le_refl _
  generalize s.heap = H at hw ⊢
  generalize ([] : List Loc) = locs at hw ⊢
  have K292 : ∀ (k189 : zs_S → Option (Int32 × zs_S)) (hk189 : ∀ (σ : zs_S) (H : Heap) (locs : List Loc) (ls : Array Slot), k189 σ = some q → zs_I 1 D cA ad A s σ H locs → lv_has ls 3 [(0, .ref (ad 1))] → W p l e RR s m args below meth c H locs 0 0 QQ (F0 m 189 ls [])) (k239 : zs_S → Option (Int32 × zs_S)) (hk239 : ∀ (σ : zs_S) (H : Heap) (locs : List Loc) (ls : Array Slot), k239 σ = some q → zs_I 1 D cA ad A s σ H locs → lv_has ls 3 [(0, .ref (ad 1))] → W p l e RR s m args below meth c H locs 0 0 QQ (F0 m 239 ls [])) (σ : zs_S) (H : Heap) (locs : List Loc) (ls : Array Slot), zf_M_check_292 F k189 k239 σ = some q → zs_I 1 D cA ad A s σ H locs → lv_has ls 3 [(0, .ref (ad 1))] → W p l e RR s m args below meth c H locs 0 0 QQ (F0 m 292 ls []) := by
    intro k189 hk189 k239 hk239  σ H locs ls hf hw hl
    unfold zf_M_check_292 at hf
    refine lv_aload_n hx hb d_M_check_292 rfl (lv_at hl 0 rfl) ?_
    refine lv_dup hx hb d_M_check_293 rfl ?_
    refine zr_get (ci := 8) G hw 1 29 zi_8 rfl rfl rfl (by decide) zm_638 (fun _ h => h) (v := .int (zs_i σ 1 29)) rfl d_M_check_294 ?_
    refine lv_iconst (v := 1) hx hb d_M_check_297 (by decide) ?_
    refine lv_iadd hx hb d_M_check_298 ?_
    obtain ⟨σ71, e_σ71, hf⟩ := zq_ss hf
    refine zr_puti (ci := 8) G hw 1 29 zi_8 t_zd8 t_zd8_ok n_zd8 rfl rfl rfl (by decide) rfl zm_638 (fun _ h => h) rfl (x := ((zs_i σ 1 29) + 1)) (t_zd8_ok 29 (by decide)) rfl rfl d_M_check_299 (fun H locs hw => ?_)
    rw [← e_σ71] at hw
    refine lv_goto hx hb d_M_check_302 (tgt := 239) rfl ?_
    exact hk239 σ71 H locs ls hf hw (lv_sub hl [0] rfl)
  have K239 : ∀ (k189 : zs_S → Option (Int32 × zs_S)) (hk189 : ∀ (σ : zs_S) (H : Heap) (locs : List Loc) (ls : Array Slot), k189 σ = some q → zs_I 1 D cA ad A s σ H locs → lv_has ls 3 [(0, .ref (ad 1))] → W p l e RR s m args below meth c H locs 0 0 QQ (F0 m 189 ls [])) (n : Nat) (σ : zs_S) (H : Heap) (locs : List Loc) (ls : Array Slot), zf_M_check_239 F k189 n σ = some q → zs_I 1 D cA ad A s σ H locs → lv_has ls 3 [(0, .ref (ad 1))] → W p l e RR s m args below meth c H locs 0 0 QQ (F0 m 239 ls []) := by
    intro k189 hk189 n
    induction n with
    | zero => intro  σ H locs ls hf hw hl; exact nomatch (show (none : Option (Int32 × zs_S)) = some q from hf)
    | succ n ih =>
      intro  σ H locs ls hf hw hl
      rw [zf_M_check_239] at hf
      refine lv_aload_n hx hb d_M_check_239 rfl (lv_at hl 0 rfl) ?_
      refine zr_get (ci := 8) G hw 1 29 zi_8 rfl rfl rfl (by decide) zm_638 (fun _ h => h) (v := .int (zs_i σ 1 29)) rfl d_M_check_240 ?_
      refine lv_aload_n hx hb d_M_check_243 rfl (lv_at hl 0 rfl) ?_
      obtain ⟨q59, e_q59, h_q59, hf⟩ := zq_qs hf
      refine zr_get (ci := 8) G hw 1 2 zi_8 rfl rfl rfl (by decide) zm_616 (fun _ h => h) (v := .ref (ad q59)) (zs_fr rfl e_q59 h_q59) d_M_check_244 ?_
      obtain ⟨hs60, hf⟩ := zq_gs hf
      have hs60 := zq_ks hs60
      refine zr_get (ci := 9) G hw q59 5 zi_9 hs60 rfl rfl (by decide) zm_646 (fun _ h => h) (v := .int (zs_i σ q59 5)) rfl d_M_check_247 ?_
      refine lv_icmp_ge hx hb d_M_check_250 (tgt := 305) rfl (fun hc => ?_) (fun hc => ?_)
      · have hf := (if_pos hc).symm.trans hf
        refine lv_aload_n hx hb d_M_check_305 rfl (lv_at hl 0 rfl) ?_
        refine lv_dup hx hb d_M_check_306 rfl ?_
        refine zr_get (ci := 8) G hw 1 28 zi_8 rfl rfl rfl (by decide) zm_636 (fun _ h => h) (v := .int (zs_i σ 1 28)) rfl d_M_check_307 ?_
        refine lv_iconst (v := 1) hx hb d_M_check_310 (by decide) ?_
        refine lv_iadd hx hb d_M_check_311 ?_
        obtain ⟨σ61, e_σ61, hf⟩ := zq_ss hf
        refine zr_puti (ci := 8) G hw 1 28 zi_8 t_zd8 t_zd8_ok n_zd8 rfl rfl rfl (by decide) rfl zm_636 (fun _ h => h) rfl (x := ((zs_i σ 1 28) + 1)) (t_zd8_ok 28 (by decide)) rfl rfl d_M_check_312 (fun H locs hw => ?_)
        rw [← e_σ61] at hw
        refine lv_goto hx hb d_M_check_315 (tgt := 189) rfl ?_
        exact hk189 σ61 H locs ls hf hw (lv_sub hl [0] rfl)
      · have hf := (if_neg hc).symm.trans hf
        refine lv_aload_n hx hb d_M_check_253 rfl (lv_at hl 0 rfl) ?_
        refine lv_aload_n hx hb d_M_check_254 rfl (lv_at hl 0 rfl) ?_
        refine zr_get (ci := 8) G hw 1 29 zi_8 rfl rfl rfl (by decide) zm_638 (fun _ h => h) (v := .int (zs_i σ 1 29)) rfl d_M_check_255 ?_
        obtain ⟨r63, σ62, hc64, hf⟩ := zq_cs hf
        refine zr_ci hw (zr_runV (rest := []) (ci := 8) (o := 1) G hw [.int (zs_i σ 1 29)] (zc_M_isReady hJ hc64) (cwV 1 hts (zs_gV zm_673 zm_674 zm_675 zm_551 zm_672) rfl rfl rfl (by decide +kernel) ⟨Nat.le_trans (by decide) hR1, Nat.le_trans (by decide) hR2⟩) rfl rfl rfl hl.1 (Nat.le_of_ble_eq_true rfl) d_M_check_258 ⟨Nat.zero_le _, Nat.zero_le _⟩) (fun H locs hw => ?_)
        refine lv_if_eq hx hb d_M_check_261 (tgt := 292) rfl (fun hc => ?_) (fun hc => ?_)
        · have hf := (if_pos hc).symm.trans hf
          exact K292 k189 hk189 (zf_M_check_239 F k189 n) ih σ62 H locs ls hf hw (lv_sub hl [0] rfl)
        · have hf := (if_neg hc).symm.trans hf
          refine lv_aload_n hx hb d_M_check_264 rfl (lv_at hl 0 rfl) ?_
          obtain ⟨r66, σ65, hc67, hf⟩ := zq_cs hf
          refine zr_ci hw (zr_runV (rest := []) (ci := 8) (o := 1) G hw [] (zc_M_move hJ hc67) (cwV 0 hts (zs_gV zm_745 zm_746 zm_747 zm_551 zm_744) rfl rfl rfl (by decide +kernel) ⟨Nat.le_trans (by decide) hR1, Nat.le_trans (by decide) hR2⟩) rfl rfl rfl hl.1 (Nat.le_of_ble_eq_true rfl) d_M_check_265 ⟨Nat.zero_le _, Nat.zero_le _⟩) (fun H locs hw => ?_)
          refine lv_if_eq hx hb d_M_check_268 (tgt := 274) rfl (fun hc => ?_) (fun hc => ?_)
          · have hf := (if_pos hc).symm.trans hf
            refine lv_aload_n hx hb d_M_check_274 rfl (lv_at hl 0 rfl) ?_
            refine lv_iconst (v := 0) hx hb d_M_check_275 (by decide) ?_
            obtain ⟨σ68, e_σ68, hf⟩ := zq_ss hf
            refine zr_puti (ci := 8) G hw 1 23 zi_8 t_zd8 t_zd8_ok n_zd8 rfl rfl rfl (by decide) rfl zm_629 (fun _ h => h) rfl (x := 0) (t_zd8_ok 23 (by decide)) rfl rfl d_M_check_276 (fun H locs hw => ?_)
            rw [← e_σ68] at hw
            refine lv_aload_n hx hb d_M_check_279 rfl (lv_at hl 0 rfl) ?_
            refine lv_iconst (v := 0) hx hb d_M_check_280 (by decide) ?_
            obtain ⟨σ69, e_σ69, hf⟩ := zq_ss hf
            refine zr_puti (ci := 8) G hw 1 24 zi_8 t_zd8 t_zd8_ok n_zd8 rfl rfl rfl (by decide) rfl zm_641 (fun _ h => h) rfl (x := 0) (t_zd8_ok 24 (by decide)) rfl rfl d_M_check_281 (fun H locs hw => ?_)
            rw [← e_σ69] at hw
            refine lv_aload_n hx hb d_M_check_284 rfl (lv_at hl 0 rfl) ?_
            refine lv_iconst (v := 0) hx hb d_M_check_285 (by decide) ?_
            obtain ⟨σ70, e_σ70, hf⟩ := zq_ss hf
            refine zr_puti (ci := 8) G hw 1 4 zi_8 t_zd8 t_zd8_ok n_zd8 rfl rfl rfl (by decide) rfl zm_741 (fun _ h => h) rfl (x := 0) (t_zd8_ok 4 (by decide)) (by decide) rfl d_M_check_286 (fun H locs hw => ?_)
            rw [← e_σ70] at hw
            refine lv_bipush (v := (-3)) hx hb d_M_check_289 (by decide) ?_
            exact zr_iret G hw hr hlocks hf hQ d_M_check_291
          · have hf := (if_neg hc).symm.trans hf
            refine lv_goto hx hb d_M_check_271 (tgt := 292) rfl ?_
            exact K292 k189 hk189 (zf_M_check_239 F k189 n) ih σ65 H locs ls hf hw (lv_sub hl [0] rfl)
  have K189 : ∀ (n : Nat) (σ : zs_S) (H : Heap) (locs : List Loc) (ls : Array Slot), zf_M_check_189 F n σ = some q → zs_I 1 D cA ad A s σ H locs → lv_has ls 3 [(0, .ref (ad 1))] → W p l e RR s m args below meth c H locs 0 0 QQ (F0 m 189 ls []) := by
    intro  n
    induction n with
    | zero => intro  σ H locs ls hf hw hl; exact nomatch (show (none : Option (Int32 × zs_S)) = some q from hf)
    | succ n ih =>
      intro  σ H locs ls hf hw hl
      rw [zf_M_check_189] at hf
      refine lv_aload_n hx hb d_M_check_189 rfl (lv_at hl 0 rfl) ?_
      refine zr_get (ci := 8) G hw 1 28 zi_8 rfl rfl rfl (by decide) zm_636 (fun _ h => h) (v := .int (zs_i σ 1 28)) rfl d_M_check_190 ?_
      refine lv_aload_n hx hb d_M_check_193 rfl (lv_at hl 0 rfl) ?_
      refine zr_get (ci := 8) G hw 1 23 zi_8 rfl rfl rfl (by decide) zm_629 (fun _ h => h) (v := .int (zs_i σ 1 23)) rfl d_M_check_194 ?_
      refine lv_icmp_ge hx hb d_M_check_197 (tgt := 318) rfl (fun hc => ?_) (fun hc => ?_)
      · have hf := (if_pos hc).symm.trans hf
        refine lv_aload_n hx hb d_M_check_318 rfl (lv_at hl 0 rfl) ?_
        refine zr_get (ci := 8) G hw 1 21 zi_8 rfl rfl rfl (by decide) zm_743 (fun _ h => h) (v := .ref (ad 62)) rfl d_M_check_319 ?_
        refine lv_aload_n hx hb d_M_check_322 rfl (lv_at hl 0 rfl) ?_
        refine zr_get (ci := 8) G hw 1 23 zi_8 rfl rfl rfl (by decide) zm_629 (fun _ h => h) (v := .int (zs_i σ 1 23)) rfl d_M_check_323 ?_
        refine lv_aload_n hx hb d_M_check_326 rfl (lv_at hl 0 rfl) ?_
        refine zr_get (ci := 8) G hw 1 24 zi_8 rfl rfl rfl (by decide) zm_641 (fun _ h => h) (v := .int (zs_i σ 1 24)) rfl d_M_check_327 ?_
        obtain ⟨hi52, hf⟩ := zq_gs hf
        obtain ⟨σ53, e_σ53, hf⟩ := zq_ss hf
        refine zr_iast G hw 62 rfl rfl  hi52  d_M_check_330 (fun H locs hw => ?_)
        rw [← e_σ53] at hw
        refine lv_bipush (v := (-2)) hx hb d_M_check_331 (by decide) ?_
        exact zr_iret G hw hr hlocks hf hQ d_M_check_333
      · have hf := (if_neg hc).symm.trans hf
        refine lv_aload_n hx hb d_M_check_200 rfl (lv_at hl 0 rfl) ?_
        refine zr_get (ci := 8) G hw 1 21 zi_8 rfl rfl rfl (by decide) zm_743 (fun _ h => h) (v := .ref (ad 62)) rfl d_M_check_201 ?_
        refine lv_aload_n hx hb d_M_check_204 rfl (lv_at hl 0 rfl) ?_
        refine zr_get (ci := 8) G hw 1 28 zi_8 rfl rfl rfl (by decide) zm_636 (fun _ h => h) (v := .int (zs_i σ 1 28)) rfl d_M_check_205 ?_
        refine lv_aload_n hx hb d_M_check_208 rfl (lv_at hl 0 rfl) ?_
        refine zr_get (ci := 8) G hw 1 24 zi_8 rfl rfl rfl (by decide) zm_641 (fun _ h => h) (v := .int (zs_i σ 1 24)) rfl d_M_check_209 ?_
        obtain ⟨hi54, hf⟩ := zq_gs hf
        obtain ⟨σ55, e_σ55, hf⟩ := zq_ss hf
        refine zr_iast G hw 62 rfl rfl  hi54  d_M_check_212 (fun H locs hw => ?_)
        rw [← e_σ55] at hw
        refine lv_aload_n hx hb d_M_check_213 rfl (lv_at hl 0 rfl) ?_
        refine zr_get (ci := 8) G hw 1 17 zi_8 rfl rfl rfl (by decide) zm_627 (fun _ h => h) (v := .ref (ad 58)) rfl d_M_check_214 ?_
        refine lv_bipush (v := 34) hx hb d_M_check_217 (by decide) ?_
        refine lv_aload_n hx hb d_M_check_219 rfl (lv_at hl 0 rfl) ?_
        refine zr_get (ci := 8) G hw 1 28 zi_8 rfl rfl rfl (by decide) zm_636 (fun _ h => h) (v := .int (zs_i σ55 1 28)) rfl d_M_check_220 ?_
        refine lv_imul hx hb d_M_check_223 ?_
        refine lv_aload_n hx hb d_M_check_224 rfl (lv_at hl 0 rfl) ?_
        refine zr_get (ci := 8) G hw 1 25 zi_8 rfl rfl rfl (by decide) zm_621 (fun _ h => h) (v := .ref (ad 64)) rfl d_M_check_225 ?_
        refine lv_iconst (v := 0) hx hb d_M_check_228 (by decide) ?_
        refine lv_bipush (v := 34) hx hb d_M_check_229 (by decide) ?_
        obtain ⟨hk56, hf⟩ := zq_gs hf
        obtain ⟨σ57, e_σ57, hf⟩ := zq_ss hf
        refine zr_copy (rest := []) G hw 58 64 rfl rfl rfl rfl (by decide) hk56 hl.1 zm_634 zm_26 zm_27 zm_28 (Nat.le_trans (by decide) hR1) (Nat.le_trans (Nat.le_of_ble_eq_true rfl) hR2) d_M_check_231 (fun H locs hw => ?_)
        rw [← e_σ57] at hw
        refine lv_aload_n hx hb d_M_check_234 rfl (lv_at hl 0 rfl) ?_
        refine lv_iconst (v := 0) hx hb d_M_check_235 (by decide) ?_
        obtain ⟨σ58, e_σ58, hf⟩ := zq_ss hf
        refine zr_puti (ci := 8) G hw 1 29 zi_8 t_zd8 t_zd8_ok n_zd8 rfl rfl rfl (by decide) rfl zm_638 (fun _ h => h) rfl (x := 0) (t_zd8_ok 29 (by decide)) rfl rfl d_M_check_236 (fun H locs hw => ?_)
        rw [← e_σ58] at hw
        exact K239 (zf_M_check_189 F n) ih F σ58 H locs ls hf hw (lv_sub hl [0] rfl)
  have K164 : ∀ (k125 : Int32 → zs_S → Option (Int32 × zs_S)) (hk125 : ∀ (x2 : Int32) (σ : zs_S) (H : Heap) (locs : List Loc) (ls : Array Slot), k125 x2 σ = some q → zs_I 1 D cA ad A s σ H locs → lv_has ls 3 [(0, .ref (ad 1)), (2, .int x2)] → W p l e RR s m args below meth c H locs 0 0 QQ (F0 m 125 ls [])) (x2 : Int32) (t0 : Int32) (t1 : Int32) (σ : zs_S) (H : Heap) (locs : List Loc) (ls : Array Slot), zf_M_check_164 F k125 x2 t0 t1 σ = some q → zs_I 1 D cA ad A s σ H locs → lv_has ls 3 [(0, .ref (ad 1)), (2, .int x2)] → W p l e RR s m args below meth c H locs 0 0 QQ (F0 m 164 ls [.int t0, .int t1, .ref (ad 65)]) := by
    intro k125 hk125 x2 t0 t1 σ H locs ls hf hw hl
    unfold zf_M_check_164 at hf
    obtain ⟨hi49, hf⟩ := zq_gs hf
    obtain ⟨σ50, e_σ50, hf⟩ := zq_ss hf
    refine zr_iast G hw 65 rfl rfl  hi49  d_M_check_164 (fun H locs hw => ?_)
    rw [← e_σ50] at hw
    obtain ⟨v51, e_v51, hf⟩ := zq_ss hf
    refine lv_iinc (v := v51) hx hb d_M_check_165 hl (k := 1) rfl (zq_inc (k := 1) (by decide) e_v51) (by decide) rfl (fun ls hl => ?_)
    have hl : lv_has ls 3 [(2, .int v51), (0, .ref (ad 1))] := hl
    refine lv_goto hx hb d_M_check_168 (tgt := 125) rfl ?_
    exact hk125 v51 σ50 H locs ls hf hw (lv_sub hl [1, 0] rfl)
  have K125 : ∀ (n : Nat) (x2 : Int32) (σ : zs_S) (H : Heap) (locs : List Loc) (ls : Array Slot), zf_M_check_125 F n x2 σ = some q → zs_I 1 D cA ad A s σ H locs → lv_has ls 3 [(0, .ref (ad 1)), (2, .int x2)] → W p l e RR s m args below meth c H locs 0 0 QQ (F0 m 125 ls []) := by
    intro  n
    induction n with
    | zero => intro x2 σ H locs ls hf hw hl; exact nomatch (show (none : Option (Int32 × zs_S)) = some q from hf)
    | succ n ih =>
      intro x2 σ H locs ls hf hw hl
      rw [zf_M_check_125] at hf
      refine lv_iload_n hx hb d_M_check_125 rfl (lv_at hl 1 rfl) ?_
      refine lv_iconst (v := 4) hx hb d_M_check_126 (by decide) ?_
      refine lv_icmp_ge hx hb d_M_check_127 (tgt := 171) rfl (fun hc => ?_) (fun hc => ?_)
      · have hf := (if_pos hc).symm.trans hf
        refine lv_aload_n hx hb d_M_check_171 rfl (lv_at hl 0 rfl) ?_
        refine zr_get (ci := 8) G hw 1 26 zi_8 rfl rfl rfl (by decide) zm_628 (fun _ h => h) (v := .ref (ad 65)) rfl d_M_check_172 ?_
        refine lv_bipush (v := 33) hx hb d_M_check_175 (by decide) ?_
        refine lv_iconst (v := (-1)) hx hb d_M_check_177 (by decide) ?_
        obtain ⟨hi33, hf⟩ := zq_gs hf
        obtain ⟨σ34, e_σ34, hf⟩ := zq_ss hf
        refine zr_iast G hw 65 rfl rfl  hi33  d_M_check_178 (fun H locs hw => ?_)
        rw [← e_σ34] at hw
        refine lv_aload_n hx hb d_M_check_179 rfl (lv_at hl 0 rfl) ?_
        obtain ⟨r36, σ35, hc37, hf⟩ := zq_cs hf
        refine zr_ci hw (zr_runV (rest := []) (ci := 8) (o := 1) G hw [] (zc_M_reach hJ hc37) (cwV 0 hts (zs_gV zm_643 zm_644 zm_645 zm_551 zm_642) rfl rfl rfl (by decide +kernel) ⟨Nat.le_trans (by decide) hR1, Nat.le_trans (by decide) hR2⟩) rfl rfl rfl hl.1 (Nat.le_of_ble_eq_true rfl) d_M_check_180 ⟨Nat.zero_le _, Nat.zero_le _⟩) (fun H locs hw => ?_)
        refine lv_pop hx hb d_M_check_183 rfl ?_
        refine lv_aload_n hx hb d_M_check_184 rfl (lv_at hl 0 rfl) ?_
        refine lv_iconst (v := 0) hx hb d_M_check_185 (by decide) ?_
        obtain ⟨σ38, e_σ38, hf⟩ := zq_ss hf
        refine zr_puti (ci := 8) G hw 1 28 zi_8 t_zd8 t_zd8_ok n_zd8 rfl rfl rfl (by decide) rfl zm_636 (fun _ h => h) rfl (x := 0) (t_zd8_ok 28 (by decide)) rfl rfl d_M_check_186 (fun H locs hw => ?_)
        rw [← e_σ38] at hw
        exact K189 F σ38 H locs ls hf hw (lv_sub hl [0] rfl)
      · have hf := (if_neg hc).symm.trans hf
        refine lv_aload_n hx hb d_M_check_130 rfl (lv_at hl 0 rfl) ?_
        refine zr_get (ci := 8) G hw 1 26 zi_8 rfl rfl rfl (by decide) zm_628 (fun _ h => h) (v := .ref (ad 65)) rfl d_M_check_131 ?_
        refine lv_iload_n hx hb d_M_check_134 rfl (lv_at hl 1 rfl) ?_
        obtain ⟨r40, σ39, hc41, hf⟩ := zq_cs hf
        refine zr_ci hw (zr_runS (rest := [.ref (ad 65)]) G hw [.int x2] (zc_M_each hJ hc41) (va_cwS 1 hts (zs_gS zm_623 zm_624 zm_551 zm_622) rfl rfl rfl (by decide +kernel) ⟨Nat.le_trans (by decide) hR1, Nat.le_trans (by decide) hR2⟩) rfl hl.1 (Nat.le_of_ble_eq_true rfl) d_M_check_135 ⟨Nat.zero_le _, Nat.zero_le _⟩) (fun H locs hw => ?_)
        refine lv_iconst (v := 3) hx hb d_M_check_138 (by decide) ?_
        refine lv_iadd hx hb d_M_check_139 ?_
        refine lv_iload_n hx hb d_M_check_140 rfl (lv_at hl 1 rfl) ?_
        refine lv_aload_n hx hb d_M_check_141 rfl (lv_at hl 0 rfl) ?_
        obtain ⟨q42, e_q42, h_q42, hf⟩ := zq_qs hf
        refine zr_get (ci := 8) G hw 1 2 zi_8 rfl rfl rfl (by decide) zm_616 (fun _ h => h) (v := .ref (ad q42)) (zs_fr rfl e_q42 h_q42) d_M_check_142 ?_
        obtain ⟨hs43, hf⟩ := zq_gs hf
        have hs43 := zq_ks hs43
        refine zr_get (ci := 9) G hw q42 5 zi_9 hs43 rfl rfl (by decide) zm_646 (fun _ h => h) (v := .int (zs_i σ39 q42 5)) rfl d_M_check_145 ?_
        refine lv_icmp_ge hx hb d_M_check_148 (tgt := 163) rfl (fun hc => ?_) (fun hc => ?_)
        · have hf := (if_pos hc).symm.trans hf
          refine lv_iconst (v := (-1)) hx hb d_M_check_163 (by decide) ?_
          exact K164 (zf_M_check_125 F n) ih x2 ((-1)) (r40 + 3) σ39 H locs ls hf hw (lv_sub hl [0, 1] rfl)
        · have hf := (if_neg hc).symm.trans hf
          refine lv_aload_n hx hb d_M_check_151 rfl (lv_at hl 0 rfl) ?_
          obtain ⟨q44, e_q44, h_q44, hf⟩ := zq_qs hf
          refine zr_get (ci := 8) G hw 1 2 zi_8 rfl rfl rfl (by decide) zm_616 (fun _ h => h) (v := .ref (ad q44)) (zs_fr rfl e_q44 h_q44) d_M_check_152 ?_
          obtain ⟨hs45, hf⟩ := zq_gs hf
          have hs45 := zq_ks hs45
          obtain ⟨q46, e_q46, h_q46, hf⟩ := zq_qs hf
          refine zr_get (ci := 9) G hw q44 4 zi_9 hs45 rfl rfl (by decide) zm_589 (fun _ h => h) (v := .ref (ad q46)) (zs_fs rfl e_q46 h_q46) d_M_check_155 ?_
          refine lv_iload_n hx hb d_M_check_158 rfl (lv_at hl 1 rfl) ?_
          obtain ⟨hs47, hf⟩ := zq_gs hf
          have hs47 := zq_ks hs47
          obtain ⟨hi48, hf⟩ := zq_gs hf
          refine zr_iald G hw q46 hs47 rfl hi48 d_M_check_159 ?_
          refine lv_goto hx hb d_M_check_160 (tgt := 164) rfl ?_
          exact K164 (zf_M_check_125 F n) ih x2 (zs_i σ39 q46 (x2).toNatClampNeg) (r40 + 3) σ39 H locs ls hf hw (lv_sub hl [0, 1] rfl)
  have K102 : ∀ (n : Nat) (x2 : Int32) (σ : zs_S) (H : Heap) (locs : List Loc) (ls : Array Slot), zf_M_check_102 F n x2 σ = some q → zs_I 1 D cA ad A s σ H locs → lv_has ls 3 [(0, .ref (ad 1)), (2, .int x2)] → W p l e RR s m args below meth c H locs 0 0 QQ (F0 m 102 ls []) := by
    intro  n
    induction n with
    | zero => intro x2 σ H locs ls hf hw hl; exact nomatch (show (none : Option (Int32 × zs_S)) = some q from hf)
    | succ n ih =>
      intro x2 σ H locs ls hf hw hl
      rw [zf_M_check_102] at hf
      refine lv_iload_n hx hb d_M_check_102 rfl (lv_at hl 1 rfl) ?_
      refine lv_iconst (v := 4) hx hb d_M_check_103 (by decide) ?_
      refine lv_icmp_ge hx hb d_M_check_104 (tgt := 123) rfl (fun hc => ?_) (fun hc => ?_)
      · have hf := (if_pos hc).symm.trans hf
        refine lv_iconst (v := 0) hx hb d_M_check_123 (by decide) ?_
        refine lv_istore_n hx hb d_M_check_124 rfl hl (by decide) rfl (fun ls hl => ?_)
        have hl : lv_has ls 3 [(2, .int 0), (0, .ref (ad 1))] := hl
        exact K125 F 0 σ H locs ls hf hw (lv_sub hl [1, 0] rfl)
      · have hf := (if_neg hc).symm.trans hf
        refine lv_aload_n hx hb d_M_check_107 rfl (lv_at hl 0 rfl) ?_
        refine zr_get (ci := 8) G hw 1 26 zi_8 rfl rfl rfl (by decide) zm_628 (fun _ h => h) (v := .ref (ad 65)) rfl d_M_check_108 ?_
        refine lv_bipush (v := 8) hx hb d_M_check_111 (by decide) ?_
        refine lv_iload_n hx hb d_M_check_113 rfl (lv_at hl 1 rfl) ?_
        refine lv_iadd hx hb d_M_check_114 ?_
        refine lv_iconst (v := (-1)) hx hb d_M_check_115 (by decide) ?_
        obtain ⟨hi30, hf⟩ := zq_gs hf
        obtain ⟨σ31, e_σ31, hf⟩ := zq_ss hf
        refine zr_iast G hw 65 rfl rfl  hi30  d_M_check_116 (fun H locs hw => ?_)
        rw [← e_σ31] at hw
        obtain ⟨v32, e_v32, hf⟩ := zq_ss hf
        refine lv_iinc (v := v32) hx hb d_M_check_117 hl (k := 1) rfl (zq_inc (k := 1) (by decide) e_v32) (by decide) rfl (fun ls hl => ?_)
        have hl : lv_has ls 3 [(2, .int v32), (0, .ref (ad 1))] := hl
        refine lv_goto hx hb d_M_check_120 (tgt := 102) rfl ?_
        exact ih v32 σ31 H locs ls hf hw (lv_sub hl [1, 0] rfl)
  have K65 : ∀ (n : Nat) (x2 : Int32) (σ : zs_S) (H : Heap) (locs : List Loc) (ls : Array Slot), zf_M_check_65 F n x2 σ = some q → zs_I 1 D cA ad A s σ H locs → lv_has ls 3 [(0, .ref (ad 1)), (2, .int x2)] → W p l e RR s m args below meth c H locs 0 0 QQ (F0 m 65 ls []) := by
    intro  n
    induction n with
    | zero => intro x2 σ H locs ls hf hw hl; exact nomatch (show (none : Option (Int32 × zs_S)) = some q from hf)
    | succ n ih =>
      intro x2 σ H locs ls hf hw hl
      rw [zf_M_check_65] at hf
      refine lv_iload_n hx hb d_M_check_65 rfl (lv_at hl 1 rfl) ?_
      refine lv_aload_n hx hb d_M_check_66 rfl (lv_at hl 0 rfl) ?_
      obtain ⟨q18, e_q18, h_q18, hf⟩ := zq_qs hf
      refine zr_get (ci := 8) G hw 1 2 zi_8 rfl rfl rfl (by decide) zm_616 (fun _ h => h) (v := .ref (ad q18)) (zs_fr rfl e_q18 h_q18) d_M_check_67 ?_
      obtain ⟨hs19, hf⟩ := zq_gs hf
      have hs19 := zq_ks hs19
      obtain ⟨q20, e_q20, h_q20, hf⟩ := zq_qs hf
      refine zr_get (ci := 9) G hw q18 0 zi_9 hs19 rfl rfl (by decide) zm_591 (fun _ h => h) (v := .ref (ad q20)) (zs_fs rfl e_q20 h_q20) d_M_check_70 ?_
      obtain ⟨hs21, hf⟩ := zq_gs hf
      have hs21 := zq_ks hs21
      refine zr_get (ci := 10) G hw q20 2 zi_10 hs21 rfl rfl (by decide) zm_596 (fun _ h => h) (v := .int (zs_i σ q20 2)) rfl d_M_check_73 ?_
      refine lv_icmp_ge hx hb d_M_check_76 (tgt := 100) rfl (fun hc => ?_) (fun hc => ?_)
      · have hf := (if_pos hc).symm.trans hf
        refine lv_iconst (v := 0) hx hb d_M_check_100 (by decide) ?_
        refine lv_istore_n hx hb d_M_check_101 rfl hl (by decide) rfl (fun ls hl => ?_)
        have hl : lv_has ls 3 [(2, .int 0), (0, .ref (ad 1))] := hl
        exact K102 F 0 σ H locs ls hf hw (lv_sub hl [1, 0] rfl)
      · have hf := (if_neg hc).symm.trans hf
        refine lv_aload_n hx hb d_M_check_79 rfl (lv_at hl 0 rfl) ?_
        refine zr_get (ci := 8) G hw 1 26 zi_8 rfl rfl rfl (by decide) zm_628 (fun _ h => h) (v := .ref (ad 65)) rfl d_M_check_80 ?_
        refine lv_iload_n hx hb d_M_check_83 rfl (lv_at hl 1 rfl) ?_
        refine lv_aload_n hx hb d_M_check_84 rfl (lv_at hl 0 rfl) ?_
        obtain ⟨q22, e_q22, h_q22, hf⟩ := zq_qs hf
        refine zr_get (ci := 8) G hw 1 2 zi_8 rfl rfl rfl (by decide) zm_616 (fun _ h => h) (v := .ref (ad q22)) (zs_fr rfl e_q22 h_q22) d_M_check_85 ?_
        obtain ⟨hs23, hf⟩ := zq_gs hf
        have hs23 := zq_ks hs23
        obtain ⟨q24, e_q24, h_q24, hf⟩ := zq_qs hf
        refine zr_get (ci := 9) G hw q22 3 zi_9 hs23 rfl rfl (by decide) zm_607 (fun _ h => h) (v := .ref (ad q24)) (zs_fs rfl e_q24 h_q24) d_M_check_88 ?_
        refine lv_iload_n hx hb d_M_check_91 rfl (lv_at hl 1 rfl) ?_
        obtain ⟨hs25, hf⟩ := zq_gs hf
        have hs25 := zq_ks hs25
        obtain ⟨hi26, hf⟩ := zq_gs hf
        refine zr_iald G hw q24 hs25 rfl hi26 d_M_check_92 ?_
        obtain ⟨hi27, hf⟩ := zq_gs hf
        obtain ⟨σ28, e_σ28, hf⟩ := zq_ss hf
        refine zr_iast G hw 65 rfl rfl  hi27  d_M_check_93 (fun H locs hw => ?_)
        rw [← e_σ28] at hw
        obtain ⟨v29, e_v29, hf⟩ := zq_ss hf
        refine lv_iinc (v := v29) hx hb d_M_check_94 hl (k := 1) rfl (zq_inc (k := 1) (by decide) e_v29) (by decide) rfl (fun ls hl => ?_)
        have hl : lv_has ls 3 [(2, .int v29), (0, .ref (ad 1))] := hl
        refine lv_goto hx hb d_M_check_97 (tgt := 65) rfl ?_
        exact ih v29 σ28 H locs ls hf hw (lv_sub hl [1, 0] rfl)
  unfold zf_M_check at hf
  refine lv_aload_n hx hb d_M_check_0 rfl (lv_at hl 0 rfl) ?_
  obtain ⟨r2, σ1, hc3, hf⟩ := zq_cs hf
  refine zr_ci hw (zr_runV (rest := []) (ci := 8) (o := 1) G hw [] (zc_M_read hJ hc3) (cwV 0 hts (zs_gV zm_738 zm_739 zm_740 zm_551 zm_737) rfl rfl rfl (by decide +kernel) ⟨Nat.le_trans (by decide) hR1, Nat.le_trans (by decide) hR2⟩) rfl rfl rfl hl.1 (Nat.le_of_ble_eq_true rfl) d_M_check_1 ⟨Nat.zero_le _, Nat.zero_le _⟩) (fun H locs hw => ?_)
  refine lv_if_ne hx hb d_M_check_4 (tgt := 12) rfl (fun hc => ?_) (fun hc => ?_)
  · have hf := (if_neg hc).symm.trans hf
    refine lv_aload_n hx hb d_M_check_12 rfl (lv_at hl 0 rfl) ?_
    obtain ⟨q4, e_q4, h_q4, hf⟩ := zq_qs hf
    refine zr_get (ci := 8) G hw 1 2 zi_8 rfl rfl rfl (by decide) zm_616 (fun _ h => h) (v := .ref (ad q4)) (zs_fr rfl e_q4 h_q4) d_M_check_13 ?_
    refine lv_astore_n hx hb d_M_check_16 rfl hl (by decide) rfl (fun ls hl => ?_)
    have hl : lv_has ls 3 [(1, .ref (ad q4)), (0, .ref (ad 1))] := hl
    refine lv_aload_n hx hb d_M_check_17 rfl (lv_at hl 1 rfl) ?_
    refine lv_aload_n hx hb d_M_check_18 rfl (lv_at hl 1 rfl) ?_
    obtain ⟨q5, e_q5, h_q5, hf⟩ := zq_qs hf
    refine zr_get (ci := 8) G hw 1 3 zi_8 rfl rfl rfl (by decide) zm_728 (fun _ h => h) (v := .ref (ad q5)) (zs_fr rfl e_q5 h_q5) d_M_check_19 ?_
    obtain ⟨hn7, hf⟩ := zq_gs hf
    have hn7 := zq_ns hn7
    obtain ⟨σ6, e_σ6, hf⟩ := zq_ss hf
    refine zr_putr (ci := 8) G hw 1 2 zi_8 t_zd8 t_zd8_ok n_zd8 rfl rfl rfl (by decide) rfl zm_616 (fun _ h => h) rfl (x := q5) hn7 (t_zd8_ok 2 (by decide)) rfl rfl d_M_check_22 (fun H locs hw => ?_)
    rw [← e_σ6] at hw
    refine lv_aload_n hx hb d_M_check_25 rfl (lv_at hl 1 rfl) ?_
    refine lv_aload_n hx hb d_M_check_26 rfl (lv_at hl 0 rfl) ?_
    obtain ⟨hn9, hf⟩ := zq_gs hf
    have hn9 := zq_ns hn9
    obtain ⟨σ8, e_σ8, hf⟩ := zq_ss hf
    refine zr_putr (ci := 8) G hw 1 3 zi_8 t_zd8 t_zd8_ok n_zd8 rfl rfl rfl (by decide) rfl zm_728 (fun _ h => h) rfl (x := q4) hn9 (t_zd8_ok 3 (by decide)) rfl rfl d_M_check_27 (fun H locs hw => ?_)
    rw [← e_σ8] at hw
    refine lv_aload_n hx hb d_M_check_30 rfl (lv_at hl 1 rfl) ?_
    refine lv_iconst (v := 1) hx hb d_M_check_31 (by decide) ?_
    obtain ⟨σ10, e_σ10, hf⟩ := zq_ss hf
    refine zr_puti (ci := 8) G hw 1 4 zi_8 t_zd8 t_zd8_ok n_zd8 rfl rfl rfl (by decide) rfl zm_741 (fun _ h => h) rfl (x := 1) (t_zd8_ok 4 (by decide)) (by decide) rfl d_M_check_32 (fun H locs hw => ?_)
    rw [← e_σ10] at hw
    refine lv_aload_n hx hb d_M_check_35 rfl (lv_at hl 1 rfl) ?_
    refine lv_iconst (v := 0) hx hb d_M_check_36 (by decide) ?_
    obtain ⟨σ11, e_σ11, hf⟩ := zq_ss hf
    refine zr_puti (ci := 8) G hw 1 23 zi_8 t_zd8 t_zd8_ok n_zd8 rfl rfl rfl (by decide) rfl zm_629 (fun _ h => h) rfl (x := 0) (t_zd8_ok 23 (by decide)) rfl rfl d_M_check_37 (fun H locs hw => ?_)
    rw [← e_σ11] at hw
    refine lv_aload_n hx hb d_M_check_40 rfl (lv_at hl 1 rfl) ?_
    refine lv_iconst (v := 0) hx hb d_M_check_41 (by decide) ?_
    obtain ⟨σ12, e_σ12, hf⟩ := zq_ss hf
    refine zr_puti (ci := 8) G hw 1 24 zi_8 t_zd8 t_zd8_ok n_zd8 rfl rfl rfl (by decide) rfl zm_641 (fun _ h => h) rfl (x := 0) (t_zd8_ok 24 (by decide)) rfl rfl d_M_check_42 (fun H locs hw => ?_)
    rw [← e_σ12] at hw
    refine lv_aload_n hx hb d_M_check_45 rfl (lv_at hl 1 rfl) ?_
    refine lv_iconst (v := (-1)) hx hb d_M_check_46 (by decide) ?_
    obtain ⟨σ13, e_σ13, hf⟩ := zq_ss hf
    refine zr_puti (ci := 8) G hw 1 28 zi_8 t_zd8 t_zd8_ok n_zd8 rfl rfl rfl (by decide) rfl zm_636 (fun _ h => h) rfl (x := ((-1))) (t_zd8_ok 28 (by decide)) rfl rfl d_M_check_47 (fun H locs hw => ?_)
    rw [← e_σ13] at hw
    refine lv_aload_n hx hb d_M_check_50 rfl (lv_at hl 1 rfl) ?_
    refine lv_iconst (v := (-1)) hx hb d_M_check_51 (by decide) ?_
    obtain ⟨σ14, e_σ14, hf⟩ := zq_ss hf
    refine zr_puti (ci := 8) G hw 1 29 zi_8 t_zd8 t_zd8_ok n_zd8 rfl rfl rfl (by decide) rfl zm_638 (fun _ h => h) rfl (x := ((-1))) (t_zd8_ok 29 (by decide)) rfl rfl d_M_check_52 (fun H locs hw => ?_)
    rw [← e_σ14] at hw
    refine lv_aload_n hx hb d_M_check_55 rfl (lv_at hl 1 rfl) ?_
    refine zr_get (ci := 8) G hw 1 26 zi_8 rfl rfl rfl (by decide) zm_628 (fun _ h => h) (v := .ref (ad 65)) rfl d_M_check_56 ?_
    refine lv_iconst (v := 0) hx hb d_M_check_59 (by decide) ?_
    obtain ⟨σ15, hc17, hf⟩ := zq_ds hf
    refine zr_cv hw (zr_runS (rest := []) G hw [.ref (ad 65), .int 0] (zc_Arrays_fillI1 hJ hc17) (va_cwS 2 hts (zs_gS zm_742 zm_22 zm_23 zm_20) rfl rfl rfl (by decide +kernel) ⟨Nat.le_trans (by decide) hR1, Nat.le_trans (by decide) hR2⟩) rfl hl.1 (Nat.le_of_ble_eq_true rfl) d_M_check_60 ⟨Nat.zero_le _, Nat.zero_le _⟩) (fun H locs hw => ?_)
    refine lv_iconst (v := 0) hx hb d_M_check_63 (by decide) ?_
    refine lv_istore_n hx hb d_M_check_64 rfl hl (by decide) rfl (fun ls hl => ?_)
    have hl : lv_has ls 3 [(2, .int 0), (1, .ref (ad q4)), (0, .ref (ad 1))] := hl
    exact K65 F 0 σ15 H locs ls hf hw (lv_sub hl [2, 0] rfl)
  · have hf := (if_pos hc).symm.trans hf
    refine lv_aload_n hx hb d_M_check_7 rfl (lv_at hl 0 rfl) ?_
    refine zr_get (ci := 8) G hw 1 11 zi_8 rfl rfl rfl (by decide) zm_543 (fun _ h => h) (v := .int (zs_i σ1 1 11)) rfl d_M_check_8 ?_
    exact zr_iret G hw hr hlocks hf hQ d_M_check_11
