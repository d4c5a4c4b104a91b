theorem zn4_0 : Cond.fieldLink "ScheduleCheckModel" 58 "ScheduleCheckModel" "tapeMany" "I" ∈ zd_ww := zd_me 887 (by decide +kernel) (by decide +kernel)
theorem zn4_1 : Cond.arrayClass FieldType.int ∈ zd_ww := zd_me 59 (by decide +kernel) (by decide +kernel)
theorem zn4_2 : Cond.fieldLink "ScheduleCheckModel" 9 "ScheduleCheckModel" "tape" "[B" ∈ zd_ww := zd_me 886 (by decide +kernel) (by decide +kernel)
section ZVA
def zv_I (w : Nat) (D : va_G) (cA : Nat → ClassId) (ad : Nat → Nat) (A : Nat → Prop) (H0 : Heap) (σ : zs_S) (H : Heap) (locs : List Loc) : Prop := va_P D zd_cl (zs_w w cA ad σ) H ∧ va_D A (zs_w w cA ad σ) ∧ va_S A H0 H locs
variable {p : Program} {l : Launch} {e : Env} {R : Room} {s : State} {m : MethodId} {args : Array Value} {below : List Frame} {meth : Method} {c : Code} {H H0 : Heap} {locs : List Loc} {cells slots : Nat} {Q : State → Prop}
variable {cc : ByteArray} {w nL pc : Nat} {ls : Array Slot} {rest : List Value} {D : va_G} {cA : Nat → ClassId} {ad : Nat → Nat} {A A9 : Nat → Prop} {σ : zs_S} {own : String}
theorem zv_get (G : zs_G w p s m args c cc nL own D cA ad A9) (hw : zv_I w D cA ad A H0 σ H locs) {ref C : String} {T : u_T} {N ci index : Nat} (o k : Nat) (hin : ∀ w ∈ u_ws C T N, w ∈ zd_ww) (hs : (zd_sh w o).1 = 10 + ci) (hc : zd_cl[ci]? = some (C, T, N)) (hN : zd_N ci = N) (hk : k < N) (hlink : Cond.fieldLink own index ref (T k).2.1 (T k).2.2.1 ∈ zd_ww) (hsame : ∀ x, s.fieldFound? (T k).1 (T k).2.1 (T k).2.2.1 = some x → s.fieldFound? ref (T k).2.1 (T k).2.2.1 = some x) {v : Value} (hv : zs_f w ad (zs_i σ o) (zs_l σ o) (zs_r σ o) ci o k = v) (hdg : decode cc pc = .ok (.getfield index, 3)) (kk : W p l e R s m args below meth c H locs cells slots Q (F0 m (pc + 3) ls (v :: rest))) : W p l e R s m args below meth c H locs cells slots Q (F0 m pc ls (.ref (ad o) :: rest)) := by
  obtain ⟨⟨hx, hb, hml, hown, hts⟩, hK, hJ, hZ⟩ := G
  obtain ⟨q0, he⟩ := zs_get w cA ad σ (zd_in hs (zd_lt hc))
  rw [zs_co hs] at he
  exact va_get hx hb hts hin hown hK hw.1 q0 he hc k hk (hts _ hlink) hsame (v := v) (by rw [List.getElem?_map, List.getElem?_range (by rw [hN]; exact hk)]; show some _ = some v; rw [hv]) hdg kk
theorem zv_puti (G : zs_G w p s m args c cc nL own D cA ad A9) (hw : zv_I w D cA ad A H0 σ H locs) {ref C : String} {T : u_T} {N ci index : Nat} (o k : Nat) (hin : ∀ w ∈ u_ws C T N, w ∈ zd_ww) (ty0 : Nat → FieldType) (hty : ∀ k, k < N → parseFieldDescriptor (T k).2.2.1 = some (ty0 k)) (hnm : ∀ a, a < N → ∀ b, b < N → a ≠ b → (T a).2.1 ≠ (T b).2.1) (hs : (zd_sh w o).1 = 10 + ci) (hc : zd_cl[ci]? = some (C, T, N)) (hN : zd_N ci = N) (hk : k < N) (hft : zd_ft w ci k = 0) (hlink : Cond.fieldLink own index ref (T k).2.1 (T k).2.2.1 ∈ zd_ww) (hsame : ∀ x, s.fieldFound? (T k).1 (T k).2.1 (T k).2.2.1 = some x → s.fieldFound? ref (T k).2.1 (T k).2.2.1 = some x) (hfin : (T k).2.2.2 = false) {ty : FieldType} {x : Int32} (hd : parseFieldDescriptor (T k).2.2.1 = some ty) (hn : narrow ty (.int x) = .int x) (hfit : fits ty (.int x) = true) (hdg : decode cc pc = .ok (.putfield index, 3)) (kk : ∀ (H1 : Heap) (locs1 : List Loc), zv_I w D cA ad A H0 (zs_wi σ o k x) H1 locs1 → W p l e R s m args below meth c H1 locs1 cells slots Q (F0 m (pc + 3) ls (rest))) : W p l e R s m args below meth c H locs cells slots Q (F0 m pc ls (.int x :: .ref (ad o) :: rest)) := by
  obtain ⟨⟨hx, hb, hml, hown, hts⟩, hK, hJ, hZ⟩ := G
  obtain ⟨hP, hD, hS⟩ := hw
  obtain ⟨q0, he⟩ := zs_get w cA ad σ (zd_in hs (zd_lt hc))
  have he' := he
  rw [zs_co hs] at he'
  refine va_put hx hb hts hin ty0 hty hnm hown hK hP hD hS q0 he' hc k hk (hts _ hlink) hsame hfin hd hn hfit (by rw [List.length_map, List.length_range, hN]; exact hk) hdg (fun H1 locs1 hP1 hD1 hS1 => ?_)
  have e2 : (zs_w w cA ad σ).set q0 (ad o, .inr (ci, ((List.range (zd_N ci)).map (zs_f w ad (zs_i σ o) (zs_l σ o) (zs_r σ o) ci o)).set k (.int x))) = zs_w w cA ad (zs_wi σ o k x) := by
    refine zs_set hD he hJ (zd_in hs (zd_lt hc)) ?_ (fun b hb2 => zs_ch (zs_in σ k x hb2) rfl rfl)
    rw [zs_co hs]
    refine congrArg (fun z => Sum.inr (ci, z)) (zs_ms _ _ _ k _ ?_ ?_)
    · unfold zs_f
      rw [hft, zs_iu]
      simp [upd]
    · intro j hj
      have e1 : upd (zs_i σ o) k x j = zs_i σ o j := by simp [upd, hj]
      unfold zs_f
      rw [zs_iu, e1]
      rfl
  rw [e2] at hP1 hD1
  exact kk H1 locs1 ⟨hP1, hD1, hS1⟩
theorem zv_bast (G : zs_G w p s m args c cc nL own D cA ad A9) (hw : zv_I w D cA ad A H0 σ H locs) (o : Nat) {n : Nat} (hs : (zd_sh w o).1 = 1) (hn : (zd_sh w o).2 = n) {i : Int32} {x : Int32} (hi : zq_b i n = true) (hdg : decode cc pc = .ok (.bastore, 1)) (kk : ∀ (H1 : Heap) (locs1 : List Loc), zv_I w D cA ad A H0 (zs_wi σ o i.toNatClampNeg (vp_nar .byte x)) H1 locs1 → W p l e R s m args below meth c H1 locs1 cells slots Q (F0 m (pc + 1) ls (rest))) : W p l e R s m args below meth c H locs cells slots Q (F0 m pc ls (.int x :: .int i :: .ref (ad o) :: rest)) := by
  obtain ⟨⟨hx, hb, hml, hown, hts⟩, hK, hJ, hZ⟩ := G
  obtain ⟨hP, hD, hS⟩ := hw
  have hL := zd_in hs (by decide)
  obtain ⟨q0, he⟩ := zs_get w cA ad σ hL
  have he' := he
  rw [zs_ca hs hn (by decide)] at he'
  obtain ⟨t0, ht⟩ := zs_tg cA hL hs (by decide)
  have he' : (zs_w w cA ad σ)[q0]? = some (ad o, .inl (cA o, n, .inl (zs_i σ o))) := he'
  refine va_bast hx hb hK hP hD hS q0 t0 he' ht (zq_bs hi) hdg (fun H1 locs1 hP1 hD1 hS1 => ?_)
  have e2 : (zs_w w cA ad σ).set q0 (ad o, .inl (cA o, n, .inl (upd (zs_i σ o) i.toNatClampNeg (vp_nar .byte x)))) = zs_w w cA ad (zs_wi σ o i.toNatClampNeg (vp_nar .byte x)) := by
    refine zs_set hD he hJ hL ?_ (fun b hb2 => zs_ch (zs_in σ _ _ hb2) rfl rfl)
    rw [zs_ca hs hn (by decide)]
    rw [zs_iu]
    rfl
  rw [e2] at hP1 hD1
  exact kk H1 locs1 ⟨hP1, hD1, hS1⟩
end ZVA
def y_M_feed : MethodName := ⟨"ScheduleCheckModel","feed","(IIIII)I"⟩
theorem d_M_feed_0 : decode prog_13_method_3_code 0 = .ok (.aload_n 0, 1) := by decide +kernel
theorem d_M_feed_1 : decode prog_13_method_3_code 1 = .ok (.getfield 58, 3) := by decide +kernel
theorem d_M_feed_4 : decode prog_13_method_3_code 4 = .ok (.bipush 20, 2) := by decide +kernel
theorem d_M_feed_6 : decode prog_13_method_3_code 6 = .ok (.iadd, 1) := by decide +kernel
theorem d_M_feed_7 : decode prog_13_method_3_code 7 = .ok (.sipush 1600, 3) := by decide +kernel
theorem d_M_feed_10 : decode prog_13_method_3_code 10 = .ok (.if_icmp .le 6, 3) := by decide +kernel
theorem d_M_feed_13 : decode prog_13_method_3_code 13 = .ok (.bipush (-3), 2) := by decide +kernel
theorem d_M_feed_15 : decode prog_13_method_3_code 15 = .ok (.ireturn, 1) := by decide +kernel
theorem d_M_feed_16 : decode prog_13_method_3_code 16 = .ok (.iconst 5, 1) := by decide +kernel
theorem d_M_feed_17 : decode prog_13_method_3_code 17 = .ok (.newarray .int, 2) := by decide +kernel
theorem d_M_feed_19 : decode prog_13_method_3_code 19 = .ok (.dup, 1) := by decide +kernel
theorem d_M_feed_20 : decode prog_13_method_3_code 20 = .ok (.iconst 0, 1) := by decide +kernel
theorem d_M_feed_21 : decode prog_13_method_3_code 21 = .ok (.iload_n 1, 1) := by decide +kernel
theorem d_M_feed_22 : decode prog_13_method_3_code 22 = .ok (.iastore, 1) := by decide +kernel
theorem d_M_feed_23 : decode prog_13_method_3_code 23 = .ok (.dup, 1) := by decide +kernel
theorem d_M_feed_24 : decode prog_13_method_3_code 24 = .ok (.iconst 1, 1) := by decide +kernel
theorem d_M_feed_25 : decode prog_13_method_3_code 25 = .ok (.iload_n 2, 1) := by decide +kernel
theorem d_M_feed_26 : decode prog_13_method_3_code 26 = .ok (.iastore, 1) := by decide +kernel
theorem d_M_feed_27 : decode prog_13_method_3_code 27 = .ok (.dup, 1) := by decide +kernel
theorem d_M_feed_28 : decode prog_13_method_3_code 28 = .ok (.iconst 2, 1) := by decide +kernel
theorem d_M_feed_29 : decode prog_13_method_3_code 29 = .ok (.iload_n 3, 1) := by decide +kernel
theorem d_M_feed_30 : decode prog_13_method_3_code 30 = .ok (.iastore, 1) := by decide +kernel
theorem d_M_feed_31 : decode prog_13_method_3_code 31 = .ok (.dup, 1) := by decide +kernel
theorem d_M_feed_32 : decode prog_13_method_3_code 32 = .ok (.iconst 3, 1) := by decide +kernel
theorem d_M_feed_33 : decode prog_13_method_3_code 33 = .ok (.iload 4, 2) := by decide +kernel
theorem d_M_feed_35 : decode prog_13_method_3_code 35 = .ok (.iastore, 1) := by decide +kernel
theorem d_M_feed_36 : decode prog_13_method_3_code 36 = .ok (.dup, 1) := by decide +kernel
theorem d_M_feed_37 : decode prog_13_method_3_code 37 = .ok (.iconst 4, 1) := by decide +kernel
theorem d_M_feed_38 : decode prog_13_method_3_code 38 = .ok (.iload 5, 2) := by decide +kernel
theorem d_M_feed_40 : decode prog_13_method_3_code 40 = .ok (.iastore, 1) := by decide +kernel
theorem d_M_feed_41 : decode prog_13_method_3_code 41 = .ok (.astore 6, 2) := by decide +kernel
theorem d_M_feed_43 : decode prog_13_method_3_code 43 = .ok (.iconst 0, 1) := by decide +kernel
theorem d_M_feed_44 : decode prog_13_method_3_code 44 = .ok (.istore 7, 2) := by decide +kernel
theorem d_M_feed_46 : decode prog_13_method_3_code 46 = .ok (.iload 7, 2) := by decide +kernel
theorem d_M_feed_48 : decode prog_13_method_3_code 48 = .ok (.bipush 20, 2) := by decide +kernel
theorem d_M_feed_50 : decode prog_13_method_3_code 50 = .ok (.if_icmp .ge 40, 3) := by decide +kernel
theorem d_M_feed_53 : decode prog_13_method_3_code 53 = .ok (.aload_n 0, 1) := by decide +kernel
theorem d_M_feed_54 : decode prog_13_method_3_code 54 = .ok (.getfield 9, 3) := by decide +kernel
theorem d_M_feed_57 : decode prog_13_method_3_code 57 = .ok (.aload_n 0, 1) := by decide +kernel
theorem d_M_feed_58 : decode prog_13_method_3_code 58 = .ok (.getfield 58, 3) := by decide +kernel
theorem d_M_feed_61 : decode prog_13_method_3_code 61 = .ok (.iload 7, 2) := by decide +kernel
theorem d_M_feed_63 : decode prog_13_method_3_code 63 = .ok (.iadd, 1) := by decide +kernel
theorem d_M_feed_64 : decode prog_13_method_3_code 64 = .ok (.aload 6, 2) := by decide +kernel
theorem d_M_feed_66 : decode prog_13_method_3_code 66 = .ok (.iload 7, 2) := by decide +kernel
theorem d_M_feed_68 : decode prog_13_method_3_code 68 = .ok (.iconst 4, 1) := by decide +kernel
theorem d_M_feed_69 : decode prog_13_method_3_code 69 = .ok (.idiv, 1) := by decide +kernel
theorem d_M_feed_70 : decode prog_13_method_3_code 70 = .ok (.iaload, 1) := by decide +kernel
theorem d_M_feed_71 : decode prog_13_method_3_code 71 = .ok (.bipush 24, 2) := by decide +kernel
theorem d_M_feed_73 : decode prog_13_method_3_code 73 = .ok (.bipush 8, 2) := by decide +kernel
theorem d_M_feed_75 : decode prog_13_method_3_code 75 = .ok (.iload 7, 2) := by decide +kernel
theorem d_M_feed_77 : decode prog_13_method_3_code 77 = .ok (.iconst 4, 1) := by decide +kernel
theorem d_M_feed_78 : decode prog_13_method_3_code 78 = .ok (.irem, 1) := by decide +kernel
theorem d_M_feed_79 : decode prog_13_method_3_code 79 = .ok (.imul, 1) := by decide +kernel
theorem d_M_feed_80 : decode prog_13_method_3_code 80 = .ok (.isub, 1) := by decide +kernel
theorem d_M_feed_81 : decode prog_13_method_3_code 81 = .ok (.ishr, 1) := by decide +kernel
theorem d_M_feed_82 : decode prog_13_method_3_code 82 = .ok (.i2b, 1) := by decide +kernel
theorem d_M_feed_83 : decode prog_13_method_3_code 83 = .ok (.bastore, 1) := by decide +kernel
theorem d_M_feed_84 : decode prog_13_method_3_code 84 = .ok (.iinc 7 1, 3) := by decide +kernel
theorem d_M_feed_87 : decode prog_13_method_3_code 87 = .ok (.goto (-41), 3) := by decide +kernel
theorem d_M_feed_90 : decode prog_13_method_3_code 90 = .ok (.aload_n 0, 1) := by decide +kernel
theorem d_M_feed_91 : decode prog_13_method_3_code 91 = .ok (.dup, 1) := by decide +kernel
theorem d_M_feed_92 : decode prog_13_method_3_code 92 = .ok (.getfield 58, 3) := by decide +kernel
theorem d_M_feed_95 : decode prog_13_method_3_code 95 = .ok (.bipush 20, 2) := by decide +kernel
theorem d_M_feed_97 : decode prog_13_method_3_code 97 = .ok (.iadd, 1) := by decide +kernel
theorem d_M_feed_98 : decode prog_13_method_3_code 98 = .ok (.putfield 58, 3) := by decide +kernel
theorem d_M_feed_101 : decode prog_13_method_3_code 101 = .ok (.aload_n 0, 1) := by decide +kernel
theorem d_M_feed_102 : decode prog_13_method_3_code 102 = .ok (.getfield 58, 3) := by decide +kernel
theorem d_M_feed_105 : decode prog_13_method_3_code 105 = .ok (.ireturn, 1) := by decide +kernel
def zd_fv (x1 x2 x3 x4 x5 : Int32) : Nat → Int32 := upd (upd (upd (upd (upd (fun _ => 0) 0 x1) 1 x2) 2 x3) 3 x4) 4 x5
def zf_M_feed_46 (F : Nat) (x1 x2 x3 x4 x5 : Int32) : Nat → Int32 → zs_S → Option (Int32 × zs_S)
  | 0, _, _ => none
  | n + 1, x7, σ =>
    if 20 ≤ x7 then (
      zq_v (zs_wi σ 1 1 (zs_i σ 1 1 + 20)) fun σ1 =>
      some (zs_i σ1 1 1, σ1)
    ) else (
      zq_g (zq_b (x7 / 4) 5) <|
      zq_g (zq_b (zs_i σ 1 1 + x7) 1600) <|
      zq_v (zs_wi σ 2 ((zs_i σ 1 1 + x7).toNatClampNeg) (vp_nar .byte ((zd_fv x1 x2 x3 x4 x5 (x7 / 4).toNatClampNeg >>> ((24 - 8 * (x7 - x7 / 4 * 4)) &&& 31))).toInt8.toInt32)) fun σ2 =>
      zq_v (x7 + 1) fun v7 =>
      zf_M_feed_46 F x1 x2 x3 x4 x5 n v7 σ2
    )
def zf_M_feed (F : Nat) (x1 x2 x3 x4 x5 : Int32) (σ : zs_S) : Option (Int32 × zs_S) :=
  if zs_i σ 1 1 + 20 ≤ 1600 then (zf_M_feed_46 F x1 x2 x3 x4 x5 F 0 σ) else (some (-3, σ))
set_option maxHeartbeats 4000000 in
set_option maxRecDepth 100000 in
theorem zc_M_feed {l : Launch} {D : va_G} {cA : Nat → ClassId} {ad : Nat → Nat} {A : Nat → Prop} {F : Nat} {x1 x2 x3 x4 x5 : Int32} {σ : zs_S} {q : Int32 × zs_S} (hJ : zs_J ad) (hf : zf_M_feed F x1 x2 x3 x4 x5 σ = some q) : Met l y_M_feed (.code y_M_feed prog_13_method_3_code 8 (some .int) :: zd_ww) { frames := 0, cells := 1, slots := 5, locals := 0 } (va_Pc [.ref (ad 1), .int x1, .int x2, .int x3, .int x4, .int x5] (zs_U 1 D cA ad A σ)) (zs_Qi 1 D cA ad A q) 1 5 A := by
  refine Met.ofW (cc := prog_13_method_3_code) (maxL := 8) (ret := (some .int)) (by decide) rfl ?_
  intro p e s m args below meth c s₁ B hml hv
  obtain ⟨hargs, hP, hK, hD, hZ⟩ := hv
  have G : zs_G 1 p s m args c prog_13_method_3_code 8 "ScheduleCheckModel" D cA ad A := ⟨⟨B.exec, B.bytes, hml, findClass_of_methodNamed B.named, fun w h => atoms_spec B.pre w (List.mem_cons_of_mem _ h)⟩, hK, hJ, hZ⟩
  have hw : zs_I 1 D cA ad A s σ s.heap [] := ⟨hP, hD, va_S.rf⟩
  have hx := G.1.1
  have hb := G.1.2.1
  have hown := G.1.2.2.2.1
  have hts := G.1.2.2.2.2
  have hr := B.returns
  have hlocks := B.notSynchronized
  have he : entryFrame m args 8 = F0 m 0 ((lg_sl [.ref (ad 1), .int x1, .int x2, .int x3, .int x4, .int x5] ++ List.replicate (8 - (lg_sl [.ref (ad 1), .int x1, .int x2, .int x3, .int x4, .int x5]).length) Slot.unset).toArray) [] := by rw [hargs]; exact lg_entry_eq m _ 8
  have hl := lv_entry [.ref (ad 1), .int x1, .int x2, .int x3, .int x4, .int x5] (n := 8) (Nat.le_of_ble_eq_true rfl)
  rw [he]
  generalize (lg_sl [.ref (ad 1), .int x1, .int x2, .int x3, .int x4, .int x5] ++ List.replicate (8 - (lg_sl [.ref (ad 1), .int x1, .int x2, .int x3, .int x4, .int x5]).length) Slot.unset).toArray = ls at hl
  have hl : lv_has ls 8 [(0, .ref (ad 1)), (1, .int x1), (2, .int x2), (3, .int x3), (4, .int x4), (5, .int x5)] := hl
  obtain ⟨RR, hR⟩ : ∃ z, z = (headSpec (.code y_M_feed prog_13_method_3_code 8 (some .int) :: zd_ww) { frames := 0, cells := 1, slots := 5, locals := 0 }).room := ⟨_, rfl⟩
  rw [← hR]
  obtain ⟨QQ, hQ⟩ : ∃ z, z = MQ below (zs_Qi 1 D cA ad A q) args s 1 5 A := ⟨_, rfl⟩
  rw [← hQ]
  have hR3 : 1 ≤ RR.cells := by rw [hR]; exact Nat.le_refl _
  have hR4 : 5 ≤ RR.slots := by rw [hR]; exact Nat.le_refl _
  unfold zf_M_feed at hf
  refine lv_aload_n hx hb d_M_feed_0 rfl (lv_at hl 0 rfl) ?_
  refine zr_get (ci := 8) G hw 1 1 zi_8 rfl rfl rfl (by decide) zn4_0 (fun _ h => h) (v := .int (zs_i σ 1 1)) rfl d_M_feed_1 ?_
  refine lv_bipush (v := 20) hx hb d_M_feed_4 (by decide) ?_
  refine lv_iadd hx hb d_M_feed_6 ?_
  refine lv_sipush (v := 1600) hx hb d_M_feed_7 (by decide) ?_
  refine lv_icmp_le hx hb d_M_feed_10 (tgt := 16) rfl (fun hc => ?_) (fun hc => ?_)
  · have hf := (if_pos hc).symm.trans hf
    refine lv_iconst (v := 5) hx hb d_M_feed_16 (by decide) ?_
    refine va_newaK (atype := .int) hx hb (hts _ zn4_1) rfl d_M_feed_17 rfl (by decide) (N := 5) (by decide) (by decide) (Nat.le_trans (by decide) hR3) (Nat.le_trans (by decide) hR4) (h := s.heap.size) rfl (fun H1 cF e1 z1 o1 hAr hNm => ?_)
    refine W.eq (g2 := F0 m 19 ls [.ref s.heap.size]) rfl ?_
    refine W.widen (k := 1) (n := 5) (by decide) (by decide) ?_
    have hPf : va_P D zd_cl [(s.heap.size, .inl (cF, 5, .inl (fun _ => 0)))] H1 := by
      intro k x hx
      have hk1 : k < 1 := (List.getElem?_eq_some_iff.mp hx).1
      rw [show k = 0 by omega] at hx
      cases hx
      show H1[s.heap.size]? = some (vp_cell _ _)
      rw [e1, vp_cell_i]
      rfl
    have hDf : va_D (fun x => s.heap.size ≤ x) [(s.heap.size, .inl (cF, 5, .inl (fun _ => (0 : Int32))))] := by
      refine ⟨fun i j x y hx hy _ => ?_, fun k x hx => ?_⟩
      · have h1 : i < 1 := (List.getElem?_eq_some_iff.mp hx).1
        have h2 : j < 1 := (List.getElem?_eq_some_iff.mp hy).1
        omega
      · have hk1 : k < 1 := (List.getElem?_eq_some_iff.mp hx).1
        rw [show k = 0 by omega] at hx
        cases hx
        exact Nat.le_refl _
    have hSf : va_S (fun x => s.heap.size ≤ x) s.heap H1 [] := ⟨by rw [z1]; omega, fun x hx _ => o1 x hx, fun _ h => by cases h⟩
    have hKf : va_K D zd_cl [(cF, .int)] s := by
      refine ⟨hK.1, fun k x hx => ?_⟩
      have hk1 : k < 1 := (List.getElem?_eq_some_iff.mp hx).1
      rw [show k = 0 by omega] at hx
      cases hx
      exact ⟨hAr, hNm⟩
    refine lv_dup hx hb d_M_feed_19 rfl ?_
    refine lv_iconst (v := 0) hx hb d_M_feed_20 (by decide) ?_
    refine lv_iload_n hx hb d_M_feed_21 rfl (lv_at hl 1 rfl) ?_
    refine va_iast hx hb hKf hPf hDf hSf 0 0 rfl rfl (by unfold vp_in; decide) d_M_feed_22 (fun H1 locs hPf hDf hSf => ?_)
    have hPf : va_P D zd_cl [(s.heap.size, .inl (cF, 5, .inl (upd (fun _ => 0) 0 x1)))] H1 := hPf
    have hDf : va_D (fun x => s.heap.size ≤ x) [(s.heap.size, .inl (cF, 5, .inl (upd (fun _ => 0) 0 x1)))] := hDf
    refine lv_dup hx hb d_M_feed_23 rfl ?_
    refine lv_iconst (v := 1) hx hb d_M_feed_24 (by decide) ?_
    refine lv_iload_n hx hb d_M_feed_25 rfl (lv_at hl 2 rfl) ?_
    refine va_iast hx hb hKf hPf hDf hSf 0 0 rfl rfl (by unfold vp_in; decide) d_M_feed_26 (fun H1 locs hPf hDf hSf => ?_)
    have hPf : va_P D zd_cl [(s.heap.size, .inl (cF, 5, .inl (upd (upd (fun _ => 0) 0 x1) 1 x2)))] H1 := hPf
    have hDf : va_D (fun x => s.heap.size ≤ x) [(s.heap.size, .inl (cF, 5, .inl (upd (upd (fun _ => 0) 0 x1) 1 x2)))] := hDf
    refine lv_dup hx hb d_M_feed_27 rfl ?_
    refine lv_iconst (v := 2) hx hb d_M_feed_28 (by decide) ?_
    refine lv_iload_n hx hb d_M_feed_29 rfl (lv_at hl 3 rfl) ?_
    refine va_iast hx hb hKf hPf hDf hSf 0 0 rfl rfl (by unfold vp_in; decide) d_M_feed_30 (fun H1 locs hPf hDf hSf => ?_)
    have hPf : va_P D zd_cl [(s.heap.size, .inl (cF, 5, .inl (upd (upd (upd (fun _ => 0) 0 x1) 1 x2) 2 x3)))] H1 := hPf
    have hDf : va_D (fun x => s.heap.size ≤ x) [(s.heap.size, .inl (cF, 5, .inl (upd (upd (upd (fun _ => 0) 0 x1) 1 x2) 2 x3)))] := hDf
    refine lv_dup hx hb d_M_feed_31 rfl ?_
    refine lv_iconst (v := 3) hx hb d_M_feed_32 (by decide) ?_
    refine lv_iload hx hb d_M_feed_33 (lv_at hl 4 rfl) ?_
    refine va_iast hx hb hKf hPf hDf hSf 0 0 rfl rfl (by unfold vp_in; decide) d_M_feed_35 (fun H1 locs hPf hDf hSf => ?_)
    have hPf : va_P D zd_cl [(s.heap.size, .inl (cF, 5, .inl (upd (upd (upd (upd (fun _ => 0) 0 x1) 1 x2) 2 x3) 3 x4)))] H1 := hPf
    have hDf : va_D (fun x => s.heap.size ≤ x) [(s.heap.size, .inl (cF, 5, .inl (upd (upd (upd (upd (fun _ => 0) 0 x1) 1 x2) 2 x3) 3 x4)))] := hDf
    refine lv_dup hx hb d_M_feed_36 rfl ?_
    refine lv_iconst (v := 4) hx hb d_M_feed_37 (by decide) ?_
    refine lv_iload hx hb d_M_feed_38 (lv_at hl 5 rfl) ?_
    refine va_iast hx hb hKf hPf hDf hSf 0 0 rfl rfl (by unfold vp_in; decide) d_M_feed_40 (fun H1 locs hPf hDf hSf => ?_)
    have hPf : va_P D zd_cl [(s.heap.size, .inl (cF, 5, .inl (upd (upd (upd (upd (upd (fun _ => 0) 0 x1) 1 x2) 2 x3) 3 x4) 4 x5)))] H1 := hPf
    have hDf : va_D (fun x => s.heap.size ≤ x) [(s.heap.size, .inl (cF, 5, .inl (upd (upd (upd (upd (upd (fun _ => 0) 0 x1) 1 x2) 2 x3) 3 x4) 4 x5)))] := hDf
    refine lv_astore hx hb d_M_feed_41 hl (by decide) rfl (fun ls hl => ?_)
    have hl : lv_has ls 8 [(6, .ref s.heap.size), (0, .ref (ad 1)), (1, .int x1), (2, .int x2), (3, .int x3), (4, .int x4), (5, .int x5)] := hl
    refine lv_iconst (v := 0) hx hb d_M_feed_43 (by decide) ?_
    refine lv_istore hx hb d_M_feed_44 hl (by decide) rfl (fun ls hl => ?_)
    have hl : lv_has ls 8 [(7, .int 0), (6, .ref s.heap.size), (0, .ref (ad 1)), (1, .int x1), (2, .int x2), (3, .int x3), (4, .int x4), (5, .int x5)] := hl
    refine va_forget (fun q hq => hSf.2.2 q hq) ?_
    have hX : va_X s.heap.size 5 (zd_fv x1 x2 x3 x4 x5) s H1 := by
      refine ⟨_, hPf 0 _ rfl, hAr 5 (fun j => .int (zd_fv x1 x2 x3 x4 x5 j)), (fun h => by cases h), ?_, fun j hj => ?_⟩
      · show (arrV _ _ _).slots.size = 5
        rw [arrV_size]
      · show (arrV _ _ _).slots[j]? = _
        rw [arrV_read _ _ hj]
        rfl
    have hlt : ∀ (k : Nat) (x : Nat × va_E), (zs_w 1 cA ad σ)[k]? = some x → x.1 < s.heap.size := fun k x hx => (hP k x hx).lt
    have hbl : s.heap.size < H1.size := (hPf 0 _ rfl : va_at D zd_cl (s.heap.size, _) H1).lt
    have hkeep : ∀ a : Nat, a < s.heap.size → H1[a]? = s.heap[a]? := fun a ha => hSf.2.1 a ha (Nat.not_le.mpr ha)
    have hP5 : va_P D zd_cl (zs_w 1 cA ad σ) H1 := hP.kept (fun k x hx => hkeep x.1 (hlt k x hx))
    have hD5 : va_D (fun x => A x ∧ x ≠ s.heap.size) (zs_w 1 cA ad σ) := ⟨hD.1, fun k x hx => ⟨hD.2 k x hx, Nat.ne_of_lt (hlt k x hx)⟩⟩
    have hw5 : zv_I 1 D cA ad (fun x => A x ∧ x ≠ s.heap.size) H1 σ H1 [] := ⟨hP5, hD5, va_S.rf⟩
    have K46 : ∀ (n : Nat) (x7 : Int32) (σ : zs_S) (H : Heap) (locs : List Loc) (ls : Array Slot), zf_M_feed_46 F x1 x2 x3 x4 x5 n x7 σ = some q → zv_I 1 D cA ad (fun x => A x ∧ x ≠ s.heap.size) H1 σ H locs → lv_has ls 8 [(7, .int x7), (6, .ref s.heap.size), (0, .ref (ad 1))] → W p l e RR s m args below meth c H locs 1 5 QQ (F0 m 46 ls []) := by
      intro n
      induction n with
      | zero => intro x7 σ H locs ls hf hw hl; exact nomatch (show (none : Option (Int32 × zs_S)) = some q from hf)
      | succ n ih =>
        intro x7 σ H locs ls hf hw hl
        rw [zf_M_feed_46] at hf
        refine lv_iload hx hb d_M_feed_46 (lv_at hl 0 rfl) ?_
        refine lv_bipush (v := 20) hx hb d_M_feed_48 (by decide) ?_
        refine lv_icmp_ge hx hb d_M_feed_50 (tgt := 90) rfl (fun hc => ?_) (fun hc => ?_)
        · have hf := (if_pos hc).symm.trans hf
          refine lv_aload_n hx hb d_M_feed_90 rfl (lv_at hl 2 rfl) ?_
          refine lv_dup hx hb d_M_feed_91 rfl ?_
          refine zv_get (ci := 8) G hw 1 1 zi_8 rfl rfl rfl (by decide) zn4_0 (fun _ h => h) (v := .int (zs_i σ 1 1)) rfl d_M_feed_92 ?_
          refine lv_bipush (v := 20) hx hb d_M_feed_95 (by decide) ?_
          refine lv_iadd hx hb d_M_feed_97 ?_
          obtain ⟨σ1, e_1, hf⟩ := zq_ss hf
          refine zv_puti (ci := 8) G hw 1 1 zi_8 t_zd8 t_zd8_ok n_zd8 rfl rfl rfl (by decide) rfl zn4_0 (fun _ h => h) rfl (t_zd8_ok 1 (by decide)) rfl rfl d_M_feed_98 (fun H locs hw => ?_)
          rw [← e_1] at hw
          refine lv_aload_n hx hb d_M_feed_101 rfl (lv_at hl 2 rfl) ?_
          refine zv_get (ci := 8) G hw 1 1 zi_8 rfl rfl rfl (by decide) zn4_0 (fun _ h => h) (v := .int (zs_i σ1 1 1)) rfl d_M_feed_102 ?_
          cases hf
          rw [hQ]
          have hk2 : ∀ a : Nat, a < s.heap.size → ¬ A a → H[a]? = s.heap[a]? := fun a ha hna => (hw.2.2.2.1 a (by omega) (fun h => hna h.1)).trans (hkeep a ha)
          exact W.iret (v := zs_i σ1 1 1) hx hb hr (fun t ht hW => ⟨⟨_, σ1, rfl, ⟨rfl, rfl⟩, by rw [ht]; exact hw.1, va_K.moved hW.alike hK, hw.2.1.weaken (fun k x hx h => h.1), by rw [ht]; exact zs_Zwarm hW (zs_Zkept hk2 hZ)⟩, by rw [ht]; exact Nat.le_trans (Nat.le_of_lt hbl) hw.2.2.1, fun a ha hna => by rw [ht]; exact hk2 a ha hna⟩) (fun x hx => (hw.2.2.2.2 x hx).1) d_M_feed_105 hlocks
        · have hf := (if_neg hc).symm.trans hf
          refine lv_aload_n hx hb d_M_feed_53 rfl (lv_at hl 2 rfl) ?_
          refine zv_get (ci := 8) G hw 1 0 zi_8 rfl rfl rfl (by decide) zn4_2 (fun _ h => h) (v := .ref (ad 2)) rfl d_M_feed_54 ?_
          refine lv_aload_n hx hb d_M_feed_57 rfl (lv_at hl 2 rfl) ?_
          refine zv_get (ci := 8) G hw 1 1 zi_8 rfl rfl rfl (by decide) zn4_0 (fun _ h => h) (v := .int (zs_i σ 1 1)) rfl d_M_feed_58 ?_
          refine lv_iload hx hb d_M_feed_61 (lv_at hl 0 rfl) ?_
          refine lv_iadd hx hb d_M_feed_63 ?_
          refine lv_aload hx hb d_M_feed_64 (lv_at hl 1 rfl) ?_
          refine lv_iload hx hb d_M_feed_66 (lv_at hl 0 rfl) ?_
          refine lv_iconst (v := 4) hx hb d_M_feed_68 (by decide) ?_
          refine lv_idiv hx hb d_M_feed_69 (by decide) ?_
          obtain ⟨hi1, hf⟩ := zq_gs hf
          refine va_sld hx hb hX hbl (fun h => h.2 rfl) hw.2.2 (zq_bs hi1) d_M_feed_70 ?_
          refine lv_bipush (v := 24) hx hb d_M_feed_71 (by decide) ?_
          refine lv_bipush (v := 8) hx hb d_M_feed_73 (by decide) ?_
          refine lv_iload hx hb d_M_feed_75 (lv_at hl 0 rfl) ?_
          refine lv_iconst (v := 4) hx hb d_M_feed_77 (by decide) ?_
          refine lv_irem hx hb d_M_feed_78 (by decide) ?_
          refine lv_imul hx hb d_M_feed_79 ?_
          refine lv_isub hx hb d_M_feed_80 ?_
          refine lv_ishr hx hb d_M_feed_81 ?_
          refine lv_i2b hx hb d_M_feed_82 rfl ?_
          obtain ⟨hi2, hf⟩ := zq_gs hf
          obtain ⟨σ2, e_2, hf⟩ := zq_ss hf
          refine zv_bast G hw 2 rfl rfl hi2 d_M_feed_83 (fun H locs hw => ?_)
          rw [← e_2] at hw
          obtain ⟨v7, e_7, hf⟩ := zq_ss hf
          refine lv_iinc (v := v7) hx hb d_M_feed_84 hl (k := 0) rfl (zq_inc (k := 1) (by decide) e_7) (by decide) rfl (fun ls hl => ?_)
          refine lv_goto hx hb d_M_feed_87 (tgt := 46) rfl ?_
          exact ih v7 σ2 H locs ls hf hw hl
    exact K46 F 0 σ H1 [] ls hf hw5 (lv_sub hl [0, 1, 2] rfl)
  · have hf := (if_neg hc).symm.trans hf
    refine lv_bipush (v := -3) hx hb d_M_feed_13 (by decide) ?_
    refine W.widen (k := 1) (n := 5) (by decide) (by decide) ?_
    exact zr_iret G hw hr hlocks hf hQ d_M_feed_15
