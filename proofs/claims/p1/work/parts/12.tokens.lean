theorem zm_57 : Cond.fieldLink "ScheduleCheck$Token" 159 "ScheduleCheck$Token" "EVERY" "[LScheduleCheck$Token;" ∈ zd_ww := zd_me 368 (by decide +kernel) (by decide +kernel)
theorem zm_58 : Cond.fieldLink "ScheduleCheck$Token" 7 "ScheduleCheck$Token" "BAD" "LScheduleCheck$Token;" ∈ zd_ww := zd_me 370 (by decide +kernel) (by decide +kernel)
theorem zm_59 : Cond.fieldLink "ScheduleCheck$Token" 153 "ScheduleCheck$Token" "length" "I" ∈ zd_ww := zd_me 1286 (by decide +kernel) (by decide +kernel)
theorem zm_60 : Cond.fieldLink "ScheduleCheck$Token" 149 "ScheduleCheck$Token" "key" "J" ∈ zd_ww := zd_me 1287 (by decide +kernel) (by decide +kernel)
theorem zm_61 : Cond.fieldLink "ScheduleCheck$Tokens" 29 "ScheduleCheck$Tokens" "at" "I" ∈ zd_ww := zd_me 46 (by decide +kernel) (by decide +kernel)
theorem zm_62 : Cond.code ⟨"ScheduleCheck$Tokens","isLetter","(I)Z"⟩ prog_11_method_7_code 1 (Option.some FieldType.boolean) ∈ zd_ww := zd_me 355 (by decide +kernel) (by decide +kernel)
theorem zm_63 : Cond.methodLink "ScheduleCheck$Tokens" 43 ⟨"ScheduleCheck$Tokens","isLetter","(I)Z"⟩ ∈ zd_ww := zd_me 353 (by decide +kernel) (by decide +kernel)
theorem zm_64 : Cond.static ⟨"ScheduleCheck$Tokens","isLetter","(I)Z"⟩ ∈ zd_ww := zd_me 354 (by decide +kernel) (by decide +kernel)
theorem zm_65 : Cond.initialized "ScheduleCheck$Tokens" ∈ zd_ww := zd_me 2 (by decide +kernel) (by decide +kernel)
theorem zm_66 : Cond.code ⟨"ScheduleCheck$Tokens","isDigit","(I)Z"⟩ prog_11_method_8_code 1 (Option.some FieldType.boolean) ∈ zd_ww := zd_me 362 (by decide +kernel) (by decide +kernel)
theorem zm_67 : Cond.methodLink "ScheduleCheck$Tokens" 51 ⟨"ScheduleCheck$Tokens","isDigit","(I)Z"⟩ ∈ zd_ww := zd_me 360 (by decide +kernel) (by decide +kernel)
theorem zm_68 : Cond.static ⟨"ScheduleCheck$Tokens","isDigit","(I)Z"⟩ ∈ zd_ww := zd_me 361 (by decide +kernel) (by decide +kernel)
theorem zm_69 : Cond.fieldLink "ScheduleCheck$Tokens" 21 "ScheduleCheck$Tokens" "contents" "[J" ∈ zd_ww := zd_me 43 (by decide +kernel) (by decide +kernel)
theorem zm_70 : Cond.fieldLink "ScheduleCheck$Tokens" 25 "ScheduleCheck$Tokens" "size" "I" ∈ zd_ww := zd_me 45 (by decide +kernel) (by decide +kernel)
theorem zm_71 : Cond.code ⟨"ScheduleCheck$Token","find","(JI)LScheduleCheck$Token;"⟩ prog_10_method_6_code 4 (Option.some (FieldType.object "ScheduleCheck$Token")) ∈ zd_ww := zd_me 367 (by decide +kernel) (by decide +kernel)
theorem zm_72 : Cond.methodLink "ScheduleCheck$Tokens" 60 ⟨"ScheduleCheck$Token","find","(JI)LScheduleCheck$Token;"⟩ ∈ zd_ww := zd_me 365 (by decide +kernel) (by decide +kernel)
theorem zm_73 : Cond.static ⟨"ScheduleCheck$Token","find","(JI)LScheduleCheck$Token;"⟩ ∈ zd_ww := zd_me 366 (by decide +kernel) (by decide +kernel)
theorem zm_74 : Cond.initialized "ScheduleCheck$Token" ∈ zd_ww := zd_me 14 (by decide +kernel) (by decide +kernel)
theorem zm_75 : Cond.fieldLink "ScheduleCheck$Tokens" 40 "ScheduleCheck$Token" "BAD" "LScheduleCheck$Token;" ∈ zd_ww := zd_me 363 (by decide +kernel) (by decide +kernel)
theorem zm_76 : Cond.fieldLink "ScheduleCheck$Tokens" 64 "ScheduleCheck$Token" "NAME" "LScheduleCheck$Token;" ∈ zd_ww := zd_me 371 (by decide +kernel) (by decide +kernel)
theorem zm_77 : Cond.code ⟨"java/lang/Math","min","(II)I"⟩ prog_17_method_69_code 2 (Option.some FieldType.int) ∈ zd_ww := zd_me 379 (by decide +kernel) (by decide +kernel)
theorem zm_78 : Cond.methodLink "ScheduleCheck$Tokens" 67 ⟨"java/lang/Math","min","(II)I"⟩ ∈ zd_ww := zd_me 377 (by decide +kernel) (by decide +kernel)
theorem zm_79 : Cond.static ⟨"java/lang/Math","min","(II)I"⟩ ∈ zd_ww := zd_me 378 (by decide +kernel) (by decide +kernel)
theorem zm_80 : Cond.initialized "java/lang/Math" ∈ zd_ww := zd_me 15 (by decide +kernel) (by decide +kernel)
theorem zm_81 : Cond.fieldLink "ScheduleCheck$Tokens" 73 "ScheduleCheck$Token" "NUMBER" "LScheduleCheck$Token;" ∈ zd_ww := zd_me 380 (by decide +kernel) (by decide +kernel)
theorem zm_82 : Cond.fieldLink "ScheduleCheck$Tokens" 17 "ScheduleCheck$Tokens" "starts" "[I" ∈ zd_ww := zd_me 41 (by decide +kernel) (by decide +kernel)
theorem zm_83 : Cond.fieldLink "ScheduleCheck$Tokens" 11 "ScheduleCheck$Tokens" "kinds" "[LScheduleCheck$Token;" ∈ zd_ww := zd_me 39 (by decide +kernel) (by decide +kernel)
theorem zm_84 : Cond.code ⟨"ScheduleCheck$Tokens","readSign","([BI)LScheduleCheck$Token;"⟩ prog_11_method_6_code 6 (Option.some (FieldType.object "ScheduleCheck$Token")) ∈ zd_ww := zd_me 385 (by decide +kernel) (by decide +kernel)
theorem zm_85 : Cond.methodLink "ScheduleCheck$Tokens" 57 ⟨"ScheduleCheck$Tokens","readSign","([BI)LScheduleCheck$Token;"⟩ ∈ zd_ww := zd_me 382 (by decide +kernel) (by decide +kernel)
theorem zm_86 : Cond.instanceMethod ⟨"ScheduleCheck$Tokens","readSign","([BI)LScheduleCheck$Token;"⟩ ∈ zd_ww := zd_me 384 (by decide +kernel) (by decide +kernel)
theorem zm_87 : Cond.selects "ScheduleCheck$Tokens" ⟨"ScheduleCheck$Tokens","readSign","([BI)LScheduleCheck$Token;"⟩ ⟨"ScheduleCheck$Tokens","readSign","([BI)LScheduleCheck$Token;"⟩ ∈ zd_ww := zd_ms 4 (by decide +kernel) (by decide +kernel)
theorem zm_88 : Cond.code ⟨"ScheduleCheck$Tokens","readNumber","([BI)LScheduleCheck$Token;"⟩ prog_11_method_5_code 4 (Option.some (FieldType.object "ScheduleCheck$Token")) ∈ zd_ww := zd_me 376 (by decide +kernel) (by decide +kernel)
theorem zm_89 : Cond.methodLink "ScheduleCheck$Tokens" 54 ⟨"ScheduleCheck$Tokens","readNumber","([BI)LScheduleCheck$Token;"⟩ ∈ zd_ww := zd_me 373 (by decide +kernel) (by decide +kernel)
theorem zm_90 : Cond.instanceMethod ⟨"ScheduleCheck$Tokens","readNumber","([BI)LScheduleCheck$Token;"⟩ ∈ zd_ww := zd_me 375 (by decide +kernel) (by decide +kernel)
theorem zm_91 : Cond.selects "ScheduleCheck$Tokens" ⟨"ScheduleCheck$Tokens","readNumber","([BI)LScheduleCheck$Token;"⟩ ⟨"ScheduleCheck$Tokens","readNumber","([BI)LScheduleCheck$Token;"⟩ ∈ zd_ww := zd_ms 3 (by decide +kernel) (by decide +kernel)
theorem zm_92 : Cond.code ⟨"ScheduleCheck$Tokens","readWord","([BI)LScheduleCheck$Token;"⟩ prog_11_method_4_code 7 (Option.some (FieldType.object "ScheduleCheck$Token")) ∈ zd_ww := zd_me 359 (by decide +kernel) (by decide +kernel)
theorem zm_93 : Cond.methodLink "ScheduleCheck$Tokens" 47 ⟨"ScheduleCheck$Tokens","readWord","([BI)LScheduleCheck$Token;"⟩ ∈ zd_ww := zd_me 356 (by decide +kernel) (by decide +kernel)
theorem zm_94 : Cond.instanceMethod ⟨"ScheduleCheck$Tokens","readWord","([BI)LScheduleCheck$Token;"⟩ ∈ zd_ww := zd_me 358 (by decide +kernel) (by decide +kernel)
theorem zm_95 : Cond.selects "ScheduleCheck$Tokens" ⟨"ScheduleCheck$Tokens","readWord","([BI)LScheduleCheck$Token;"⟩ ⟨"ScheduleCheck$Tokens","readWord","([BI)LScheduleCheck$Token;"⟩ ∈ zd_ww := zd_ms 2 (by decide +kernel) (by decide +kernel)
theorem zm_96 : Cond.fieldLink "ScheduleCheck$Tokens" 36 "ScheduleCheck$Token" "END" "LScheduleCheck$Token;" ∈ zd_ww := zd_me 351 (by decide +kernel) (by decide +kernel)
theorem zm_97 : Cond.code ⟨"ScheduleCheck$Tokens","addToken","([BI)V"⟩ prog_11_method_3_code 3 none ∈ zd_ww := zd_me 350 (by decide +kernel) (by decide +kernel)
theorem zm_98 : Cond.methodLink "ScheduleCheck$Tokens" 32 ⟨"ScheduleCheck$Tokens","addToken","([BI)V"⟩ ∈ zd_ww := zd_me 347 (by decide +kernel) (by decide +kernel)
theorem zm_99 : Cond.instanceMethod ⟨"ScheduleCheck$Tokens","addToken","([BI)V"⟩ ∈ zd_ww := zd_me 349 (by decide +kernel) (by decide +kernel)
theorem zm_100 : Cond.selects "ScheduleCheck$Tokens" ⟨"ScheduleCheck$Tokens","addToken","([BI)V"⟩ ⟨"ScheduleCheck$Tokens","addToken","([BI)V"⟩ ∈ zd_ww := zd_ms 1 (by decide +kernel) (by decide +kernel)
/-! ScheduleCheck$Token.find -/
def y_Token_find : MethodName := ⟨"ScheduleCheck$Token","find","(JI)LScheduleCheck$Token;"⟩
theorem d_Token_find_0 : decode prog_10_method_6_code 0 = .ok (.iconst 0, 1) := by decide +kernel
theorem d_Token_find_1 : decode prog_10_method_6_code 1 = .ok (.istore_n 3, 1) := by decide +kernel
theorem d_Token_find_2 : decode prog_10_method_6_code 2 = .ok (.iload_n 3, 1) := by decide +kernel
theorem d_Token_find_3 : decode prog_10_method_6_code 3 = .ok (.getstatic 159, 3) := by decide +kernel
theorem d_Token_find_6 : decode prog_10_method_6_code 6 = .ok (.arraylength, 1) := by decide +kernel
theorem d_Token_find_7 : decode prog_10_method_6_code 7 = .ok (.if_icmp .ge 40, 3) := by decide +kernel
theorem d_Token_find_10 : decode prog_10_method_6_code 10 = .ok (.getstatic 159, 3) := by decide +kernel
theorem d_Token_find_13 : decode prog_10_method_6_code 13 = .ok (.iload_n 3, 1) := by decide +kernel
theorem d_Token_find_14 : decode prog_10_method_6_code 14 = .ok (.aaload, 1) := by decide +kernel
theorem d_Token_find_15 : decode prog_10_method_6_code 15 = .ok (.getfield 153, 3) := by decide +kernel
theorem d_Token_find_18 : decode prog_10_method_6_code 18 = .ok (.iload_n 2, 1) := by decide +kernel
theorem d_Token_find_19 : decode prog_10_method_6_code 19 = .ok (.if_icmp .ne 22, 3) := by decide +kernel
theorem d_Token_find_22 : decode prog_10_method_6_code 22 = .ok (.getstatic 159, 3) := by decide +kernel
theorem d_Token_find_25 : decode prog_10_method_6_code 25 = .ok (.iload_n 3, 1) := by decide +kernel
theorem d_Token_find_26 : decode prog_10_method_6_code 26 = .ok (.aaload, 1) := by decide +kernel
theorem d_Token_find_27 : decode prog_10_method_6_code 27 = .ok (.getfield 149, 3) := by decide +kernel
theorem d_Token_find_30 : decode prog_10_method_6_code 30 = .ok (.lload_n 0, 1) := by decide +kernel
theorem d_Token_find_31 : decode prog_10_method_6_code 31 = .ok (.lcmp, 1) := by decide +kernel
theorem d_Token_find_32 : decode prog_10_method_6_code 32 = .ok (.ifCond .ne 9, 3) := by decide +kernel
theorem d_Token_find_35 : decode prog_10_method_6_code 35 = .ok (.getstatic 159, 3) := by decide +kernel
theorem d_Token_find_38 : decode prog_10_method_6_code 38 = .ok (.iload_n 3, 1) := by decide +kernel
theorem d_Token_find_39 : decode prog_10_method_6_code 39 = .ok (.aaload, 1) := by decide +kernel
theorem d_Token_find_40 : decode prog_10_method_6_code 40 = .ok (.areturn, 1) := by decide +kernel
theorem d_Token_find_41 : decode prog_10_method_6_code 41 = .ok (.iinc 3 1, 3) := by decide +kernel
theorem d_Token_find_44 : decode prog_10_method_6_code 44 = .ok (.goto (-42), 3) := by decide +kernel
theorem d_Token_find_47 : decode prog_10_method_6_code 47 = .ok (.getstatic 7, 3) := by decide +kernel
theorem d_Token_find_50 : decode prog_10_method_6_code 50 = .ok (.areturn, 1) := by decide +kernel
def zf_Token_find_41 (F : Nat) (k2 : Int64 → Int32 → Int32 → zs_S → Option (Nat × zs_S)) (x0 : Int64) (x2 : Int32) (x3 : Int32) (σ : zs_S) : Option (Nat × zs_S) :=
  zq_v (x3 + 1) fun v9 =>
  k2 x0 x2 v9 σ
def zf_Token_find_2 (F : Nat)  : Nat → Int64 → Int32 → Int32 → zs_S → Option (Nat × zs_S)
  | 0, _, _, _, _ => none
  | n + 1, x0, x2, x3, σ =>
    if 37 ≤ x3 then (
      some (1001, σ)
    ) else (
      zq_g (zq_b x3 37) <|
      zq_v (1000 + (x3).toNatClampNeg) fun q2 =>
      zq_g (zq_t q2) <|
      if (zd_tv 1 q2) = x2 then (
        zq_g (zq_b x3 37) <|
        zq_v (1000 + (x3).toNatClampNeg) fun q5 =>
        zq_g (zq_t q5) <|
        if (lg_cmp (zd_tw q5) x0) = 0 then (
          zq_g (zq_b x3 37) <|
          zq_v (1000 + (x3).toNatClampNeg) fun q8 =>
          some (q8, σ)
        ) else (
          zf_Token_find_41 F (zf_Token_find_2 F n) x0 x2 x3 σ
        )
      ) else (
        zf_Token_find_41 F (zf_Token_find_2 F n) x0 x2 x3 σ
      )
    )
def zf_Token_find (F : Nat) (x0 : Int64) (x2 : Int32) (σ : zs_S) : Option (Nat × zs_S) :=
  zf_Token_find_2 F F x0 x2 0 σ
set_option maxHeartbeats 4000000 in
set_option maxRecDepth 100000 in
theorem zc_Token_find {l : Launch} {D : va_G} {cA : Nat → ClassId} {ad : Nat → Nat} {A : Nat → Prop} {F : Nat} {x0 : Int64} {x2 : Int32} {σ : zs_S} {q : Nat × zs_S} (hJ : zs_J ad) (hf : zf_Token_find F x0 x2 σ = some q) : Met l y_Token_find (.code y_Token_find prog_10_method_6_code 4 (some (.object "ScheduleCheck$Token")) :: zd_ww) { frames := 0, cells := 0, slots := 0, locals := 0 } (va_Pc [.long x0, .int x2] (zs_U 0 D cA ad A σ)) (zs_Qr 0 D cA ad A q) 0 0 A := by
  refine Met.ofW (cc := prog_10_method_6_code) (maxL := 4) (ret := (some (.object "ScheduleCheck$Token"))) (by decide) rfl ?_
  intro p e s m args below meth c s₁ B hml hv
  obtain ⟨hargs, hP, hK, hD, hZ⟩ := hv
  have G : zs_G 0 p s m args c prog_10_method_6_code 4 "ScheduleCheck$Token" D cA ad A := ⟨⟨B.exec, B.bytes, hml, findClass_of_methodNamed B.named, fun w h => atoms_spec B.pre w (List.mem_cons_of_mem _ h)⟩, hK, hJ, hZ⟩
  have hw : zs_I 0 D cA ad A s σ s.heap [] := ⟨hP, hD, va_S.rf⟩
  have hx := G.1.1
  have hb := G.1.2.1
  have hown := G.1.2.2.2.1
  have hts := G.1.2.2.2.2
  have hr := B.returns
  have hlocks := B.notSynchronized
  have he : entryFrame m args 4 = F0 m 0 ((lg_sl [.long x0, .int x2] ++ List.replicate (4 - (lg_sl [.long x0, .int x2]).length) Slot.unset).toArray) [] := by rw [hargs]; exact lg_entry_eq m _ 4
  have hl := lv_entry [.long x0, .int x2] (n := 4) (Nat.le_of_ble_eq_true rfl)
  rw [he]
  generalize (lg_sl [.long x0, .int x2] ++ List.replicate (4 - (lg_sl [.long x0, .int x2]).length) Slot.unset).toArray = ls at hl
  have hl : lv_has ls 4 [(0, .long x0), (2, .int x2)] := hl
  obtain ⟨RR, hR⟩ : ∃ z, z = (headSpec (.code y_Token_find prog_10_method_6_code 4 (some (.object "ScheduleCheck$Token")) :: zd_ww) { frames := 0, cells := 0, slots := 0, locals := 0 }).room := ⟨_, rfl⟩
  rw [← hR]
  obtain ⟨QQ, hQ⟩ : ∃ z, z = MQ below (zs_Qr 0 D cA ad A q) args s 0 0 A := ⟨_, rfl⟩
  rw [← hQ]
  have hR1 : 0 ≤ RR.frames := by rw [hR]; exact Nat.le_refl _
  have hR2 : 0 ≤ RR.locals := by rw [hR]; exact Nat.le_refl _
  generalize s.heap = H at hw ⊢
  generalize ([] : List Loc) = locs at hw ⊢
  have K41 : ∀ (k2 : Int64 → Int32 → Int32 → zs_S → Option (Nat × zs_S)) (hk2 : ∀ (x0 : Int64) (x2 : Int32) (x3 : Int32) (σ : zs_S) (H : Heap) (locs : List Loc) (ls : Array Slot), k2 x0 x2 x3 σ = some q → zs_I 0 D cA ad A s σ H locs → lv_has ls 4 [(0, .long x0), (2, .int x2), (3, .int x3)] → W p l e RR s m args below meth c H locs 0 0 QQ (F0 m 2 ls [])) (x0 : Int64) (x2 : Int32) (x3 : Int32) (σ : zs_S) (H : Heap) (locs : List Loc) (ls : Array Slot), zf_Token_find_41 F k2 x0 x2 x3 σ = some q → zs_I 0 D cA ad A s σ H locs → lv_has ls 4 [(0, .long x0), (2, .int x2), (3, .int x3)] → W p l e RR s m args below meth c H locs 0 0 QQ (F0 m 41 ls []) := by
    intro k2 hk2 x0 x2 x3 σ H locs ls hf hw hl
    unfold zf_Token_find_41 at hf
    obtain ⟨v9, e_v9, hf⟩ := zq_ss hf
    refine lv_iinc (v := v9) hx hb d_Token_find_41 hl (k := 2) rfl (zq_inc (k := 1) (by decide) e_v9) (by decide) rfl (fun ls hl => ?_)
    have hl : lv_has ls 4 [(3, .int v9), (0, .long x0), (2, .int x2)] := hl
    refine lv_goto hx hb d_Token_find_44 (tgt := 2) rfl ?_
    exact hk2 x0 x2 v9 σ H locs ls hf hw (lv_sub hl [1, 2, 0] rfl)
  have K2 : ∀ (n : Nat) (x0 : Int64) (x2 : Int32) (x3 : Int32) (σ : zs_S) (H : Heap) (locs : List Loc) (ls : Array Slot), zf_Token_find_2 F n x0 x2 x3 σ = some q → zs_I 0 D cA ad A s σ H locs → lv_has ls 4 [(0, .long x0), (2, .int x2), (3, .int x3)] → W p l e RR s m args below meth c H locs 0 0 QQ (F0 m 2 ls []) := by
    intro  n
    induction n with
    | zero => intro x0 x2 x3 σ H locs ls hf hw hl; exact nomatch (show (none : Option (Nat × zs_S)) = some q from hf)
    | succ n ih =>
      intro x0 x2 x3 σ H locs ls hf hw hl
      rw [zf_Token_find_2] at hf
      refine lv_iload_n hx hb d_Token_find_2 rfl (lv_at hl 2 rfl) ?_
      refine va_gets (C := "ScheduleCheck$Token") (n := "EVERY") (d := "[LScheduleCheck$Token;") (v := .ref (ad 1200)) hx hb (G.2.2.2.1 rfl).2.2.2.1 hw.2.2 hown (hts _ zm_57) (fun _ h => h) d_Token_find_3 ?_
      refine va_tlen (v := 37) hx hb (G.2.2.2.1 rfl).2.2.2.2.1 hw.2.2 rfl d_Token_find_6 ?_
      refine lv_icmp_ge hx hb d_Token_find_7 (tgt := 47) rfl (fun hc => ?_) (fun hc => ?_)
      · have hf := (if_pos hc).symm.trans hf
        refine va_gets (C := "ScheduleCheck$Token") (n := "BAD") (d := "LScheduleCheck$Token;") (v := .ref (ad 1001)) hx hb ((G.2.2.2.1 rfl).1.1 1 (by decide)).1 hw.2.2 hown (hts _ zm_58) (fun _ h => h) d_Token_find_47 ?_
        exact zr_aret G hw hr (Or.inl ⟨_, rfl⟩) hlocks hf hQ d_Token_find_50
      · have hf := (if_neg hc).symm.trans hf
        refine va_gets (C := "ScheduleCheck$Token") (n := "EVERY") (d := "[LScheduleCheck$Token;") (v := .ref (ad 1200)) hx hb (G.2.2.2.1 rfl).2.2.2.1 hw.2.2 hown (hts _ zm_57) (fun _ h => h) d_Token_find_10 ?_
        refine lv_iload_n hx hb d_Token_find_13 rfl (lv_at hl 2 rfl) ?_
        obtain ⟨hi1, hf⟩ := zq_gs hf
        obtain ⟨q2, e_q2, hf⟩ := zq_ss hf
        refine vb_tq (v := .ref (ad q2)) hx hb (G.2.2.2.1 rfl).2.2.2.2.1 hw.2.2 (zq_bs hi1) (by rw [e_q2]) d_Token_find_14 ?_
        obtain ⟨ht3, hf⟩ := zq_gs hf
        refine zr_tf G hw ht3 1 rfl zm_59 d_Token_find_15 ?_
        refine lv_iload_n hx hb d_Token_find_18 rfl (lv_at hl 1 rfl) ?_
        refine lv_icmp_ne hx hb d_Token_find_19 (tgt := 41) rfl (fun hc => ?_) (fun hc => ?_)
        · have hf := (if_neg hc).symm.trans hf
          exact K41 (zf_Token_find_2 F n) ih x0 x2 x3 σ H locs ls hf hw (lv_sub hl [0, 1, 2] rfl)
        · have hf := (if_pos hc).symm.trans hf
          refine va_gets (C := "ScheduleCheck$Token") (n := "EVERY") (d := "[LScheduleCheck$Token;") (v := .ref (ad 1200)) hx hb (G.2.2.2.1 rfl).2.2.2.1 hw.2.2 hown (hts _ zm_57) (fun _ h => h) d_Token_find_22 ?_
          refine lv_iload_n hx hb d_Token_find_25 rfl (lv_at hl 2 rfl) ?_
          obtain ⟨hi4, hf⟩ := zq_gs hf
          obtain ⟨q5, e_q5, hf⟩ := zq_ss hf
          refine vb_tq (v := .ref (ad q5)) hx hb (G.2.2.2.1 rfl).2.2.2.2.1 hw.2.2 (zq_bs hi4) (by rw [e_q5]) d_Token_find_26 ?_
          obtain ⟨ht6, hf⟩ := zq_gs hf
          refine zr_tk G hw ht6 zm_60 d_Token_find_27 ?_
          refine lv_lload_n hx hb d_Token_find_30 rfl (lv_at hl 0 rfl) ?_
          refine W.lcmp hx hb d_Token_find_31 ?_
          refine lv_if_ne hx hb d_Token_find_32 (tgt := 41) rfl (fun hc => ?_) (fun hc => ?_)
          · have hf := (if_neg hc).symm.trans hf
            exact K41 (zf_Token_find_2 F n) ih x0 x2 x3 σ H locs ls hf hw (lv_sub hl [0, 1, 2] rfl)
          · have hf := (if_pos hc).symm.trans hf
            refine va_gets (C := "ScheduleCheck$Token") (n := "EVERY") (d := "[LScheduleCheck$Token;") (v := .ref (ad 1200)) hx hb (G.2.2.2.1 rfl).2.2.2.1 hw.2.2 hown (hts _ zm_57) (fun _ h => h) d_Token_find_35 ?_
            refine lv_iload_n hx hb d_Token_find_38 rfl (lv_at hl 2 rfl) ?_
            obtain ⟨hi7, hf⟩ := zq_gs hf
            obtain ⟨q8, e_q8, hf⟩ := zq_ss hf
            refine vb_tq (v := .ref (ad q8)) hx hb (G.2.2.2.1 rfl).2.2.2.2.1 hw.2.2 (zq_bs hi7) (by rw [e_q8]) d_Token_find_39 ?_
            exact zr_aret G hw hr (Or.inl ⟨_, rfl⟩) hlocks hf hQ d_Token_find_40
  unfold zf_Token_find at hf
  refine lv_iconst (v := 0) hx hb d_Token_find_0 (by decide) ?_
  refine lv_istore_n hx hb d_Token_find_1 rfl hl (by decide) rfl (fun ls hl => ?_)
  have hl : lv_has ls 4 [(3, .int 0), (0, .long x0), (2, .int x2)] := hl
  exact K2 F x0 x2 0 σ H locs ls hf hw (lv_sub hl [1, 2, 0] rfl)
/-! ScheduleCheck$Tokens.readWord -/
def y_Tokens_readWord : MethodName := ⟨"ScheduleCheck$Tokens","readWord","([BI)LScheduleCheck$Token;"⟩
theorem d_Tokens_readWord_0 : decode prog_11_method_4_code 0 = .ok (.aload_n 0, 1) := by decide +kernel
theorem d_Tokens_readWord_1 : decode prog_11_method_4_code 1 = .ok (.getfield 29, 3) := by decide +kernel
theorem d_Tokens_readWord_4 : decode prog_11_method_4_code 4 = .ok (.istore_n 3, 1) := by decide +kernel
theorem d_Tokens_readWord_5 : decode prog_11_method_4_code 5 = .ok (.lconst 0, 1) := by decide +kernel
theorem d_Tokens_readWord_6 : decode prog_11_method_4_code 6 = .ok (.lstore 4, 2) := by decide +kernel
theorem d_Tokens_readWord_8 : decode prog_11_method_4_code 8 = .ok (.aload_n 0, 1) := by decide +kernel
theorem d_Tokens_readWord_9 : decode prog_11_method_4_code 9 = .ok (.getfield 29, 3) := by decide +kernel
theorem d_Tokens_readWord_12 : decode prog_11_method_4_code 12 = .ok (.iload_n 2, 1) := by decide +kernel
theorem d_Tokens_readWord_13 : decode prog_11_method_4_code 13 = .ok (.if_icmp .ge 55, 3) := by decide +kernel
theorem d_Tokens_readWord_16 : decode prog_11_method_4_code 16 = .ok (.aload_n 1, 1) := by decide +kernel
theorem d_Tokens_readWord_17 : decode prog_11_method_4_code 17 = .ok (.aload_n 0, 1) := by decide +kernel
theorem d_Tokens_readWord_18 : decode prog_11_method_4_code 18 = .ok (.getfield 29, 3) := by decide +kernel
theorem d_Tokens_readWord_21 : decode prog_11_method_4_code 21 = .ok (.baload, 1) := by decide +kernel
theorem d_Tokens_readWord_22 : decode prog_11_method_4_code 22 = .ok (.invokestatic 43, 3) := by decide +kernel
theorem d_Tokens_readWord_25 : decode prog_11_method_4_code 25 = .ok (.ifCond .ne 15, 3) := by decide +kernel
theorem d_Tokens_readWord_28 : decode prog_11_method_4_code 28 = .ok (.aload_n 1, 1) := by decide +kernel
theorem d_Tokens_readWord_29 : decode prog_11_method_4_code 29 = .ok (.aload_n 0, 1) := by decide +kernel
theorem d_Tokens_readWord_30 : decode prog_11_method_4_code 30 = .ok (.getfield 29, 3) := by decide +kernel
theorem d_Tokens_readWord_33 : decode prog_11_method_4_code 33 = .ok (.baload, 1) := by decide +kernel
theorem d_Tokens_readWord_34 : decode prog_11_method_4_code 34 = .ok (.invokestatic 51, 3) := by decide +kernel
theorem d_Tokens_readWord_37 : decode prog_11_method_4_code 37 = .ok (.ifCond .eq 31, 3) := by decide +kernel
theorem d_Tokens_readWord_40 : decode prog_11_method_4_code 40 = .ok (.lload 4, 2) := by decide +kernel
theorem d_Tokens_readWord_42 : decode prog_11_method_4_code 42 = .ok (.bipush 8, 2) := by decide +kernel
theorem d_Tokens_readWord_44 : decode prog_11_method_4_code 44 = .ok (.lshl, 1) := by decide +kernel
theorem d_Tokens_readWord_45 : decode prog_11_method_4_code 45 = .ok (.aload_n 1, 1) := by decide +kernel
theorem d_Tokens_readWord_46 : decode prog_11_method_4_code 46 = .ok (.aload_n 0, 1) := by decide +kernel
theorem d_Tokens_readWord_47 : decode prog_11_method_4_code 47 = .ok (.getfield 29, 3) := by decide +kernel
theorem d_Tokens_readWord_50 : decode prog_11_method_4_code 50 = .ok (.baload, 1) := by decide +kernel
theorem d_Tokens_readWord_51 : decode prog_11_method_4_code 51 = .ok (.i2l, 1) := by decide +kernel
theorem d_Tokens_readWord_52 : decode prog_11_method_4_code 52 = .ok (.lor, 1) := by decide +kernel
theorem d_Tokens_readWord_53 : decode prog_11_method_4_code 53 = .ok (.lstore 4, 2) := by decide +kernel
theorem d_Tokens_readWord_55 : decode prog_11_method_4_code 55 = .ok (.aload_n 0, 1) := by decide +kernel
theorem d_Tokens_readWord_56 : decode prog_11_method_4_code 56 = .ok (.dup, 1) := by decide +kernel
theorem d_Tokens_readWord_57 : decode prog_11_method_4_code 57 = .ok (.getfield 29, 3) := by decide +kernel
theorem d_Tokens_readWord_60 : decode prog_11_method_4_code 60 = .ok (.iconst 1, 1) := by decide +kernel
theorem d_Tokens_readWord_61 : decode prog_11_method_4_code 61 = .ok (.iadd, 1) := by decide +kernel
theorem d_Tokens_readWord_62 : decode prog_11_method_4_code 62 = .ok (.putfield 29, 3) := by decide +kernel
theorem d_Tokens_readWord_65 : decode prog_11_method_4_code 65 = .ok (.goto (-57), 3) := by decide +kernel
theorem d_Tokens_readWord_68 : decode prog_11_method_4_code 68 = .ok (.aload_n 0, 1) := by decide +kernel
theorem d_Tokens_readWord_69 : decode prog_11_method_4_code 69 = .ok (.getfield 29, 3) := by decide +kernel
theorem d_Tokens_readWord_72 : decode prog_11_method_4_code 72 = .ok (.iload_n 3, 1) := by decide +kernel
theorem d_Tokens_readWord_73 : decode prog_11_method_4_code 73 = .ok (.isub, 1) := by decide +kernel
theorem d_Tokens_readWord_74 : decode prog_11_method_4_code 74 = .ok (.bipush 8, 2) := by decide +kernel
theorem d_Tokens_readWord_76 : decode prog_11_method_4_code 76 = .ok (.if_icmp .le 7, 3) := by decide +kernel
theorem d_Tokens_readWord_79 : decode prog_11_method_4_code 79 = .ok (.getstatic 40, 3) := by decide +kernel
theorem d_Tokens_readWord_82 : decode prog_11_method_4_code 82 = .ok (.areturn, 1) := by decide +kernel
theorem d_Tokens_readWord_83 : decode prog_11_method_4_code 83 = .ok (.aload_n 0, 1) := by decide +kernel
theorem d_Tokens_readWord_84 : decode prog_11_method_4_code 84 = .ok (.getfield 21, 3) := by decide +kernel
theorem d_Tokens_readWord_87 : decode prog_11_method_4_code 87 = .ok (.aload_n 0, 1) := by decide +kernel
theorem d_Tokens_readWord_88 : decode prog_11_method_4_code 88 = .ok (.getfield 25, 3) := by decide +kernel
theorem d_Tokens_readWord_91 : decode prog_11_method_4_code 91 = .ok (.lload 4, 2) := by decide +kernel
theorem d_Tokens_readWord_93 : decode prog_11_method_4_code 93 = .ok (.lastore, 1) := by decide +kernel
theorem d_Tokens_readWord_94 : decode prog_11_method_4_code 94 = .ok (.lload 4, 2) := by decide +kernel
theorem d_Tokens_readWord_96 : decode prog_11_method_4_code 96 = .ok (.aload_n 0, 1) := by decide +kernel
theorem d_Tokens_readWord_97 : decode prog_11_method_4_code 97 = .ok (.getfield 29, 3) := by decide +kernel
theorem d_Tokens_readWord_100 : decode prog_11_method_4_code 100 = .ok (.iload_n 3, 1) := by decide +kernel
theorem d_Tokens_readWord_101 : decode prog_11_method_4_code 101 = .ok (.isub, 1) := by decide +kernel
theorem d_Tokens_readWord_102 : decode prog_11_method_4_code 102 = .ok (.invokestatic 60, 3) := by decide +kernel
theorem d_Tokens_readWord_105 : decode prog_11_method_4_code 105 = .ok (.astore 6, 2) := by decide +kernel
theorem d_Tokens_readWord_107 : decode prog_11_method_4_code 107 = .ok (.aload 6, 2) := by decide +kernel
theorem d_Tokens_readWord_109 : decode prog_11_method_4_code 109 = .ok (.getstatic 40, 3) := by decide +kernel
theorem d_Tokens_readWord_112 : decode prog_11_method_4_code 112 = .ok (.if_acmp .ne 9, 3) := by decide +kernel
theorem d_Tokens_readWord_115 : decode prog_11_method_4_code 115 = .ok (.getstatic 64, 3) := by decide +kernel
theorem d_Tokens_readWord_118 : decode prog_11_method_4_code 118 = .ok (.goto 5, 3) := by decide +kernel
theorem d_Tokens_readWord_121 : decode prog_11_method_4_code 121 = .ok (.aload 6, 2) := by decide +kernel
theorem d_Tokens_readWord_123 : decode prog_11_method_4_code 123 = .ok (.areturn, 1) := by decide +kernel
def zf_Tokens_readWord_123 (F : Nat)  (t0 : Nat) (σ : zs_S) : Option (Nat × zs_S) :=
  some (t0, σ)
def zf_Tokens_readWord_68 (F : Nat)  (x3 : Int32) (x4 : Int64) (σ : zs_S) : Option (Nat × zs_S) :=
  if ((zs_i σ 3 4) - x3) ≤ 8 then (
    zq_g (zq_b (zs_i σ 3 3) 1601) <|
    zq_v (zs_wl σ 6 ((zs_i σ 3 3).toNatClampNeg) x4) fun σ16 =>
    zq_c (zf_Token_find F x4 ((zs_i σ16 3 4) - x3) σ16) fun r18 σ17 =>
    zq_g (decide (r18 < 1200)) <|
    if r18 = 1001 then (
      zf_Tokens_readWord_123 F 1002 σ17
    ) else (
      zf_Tokens_readWord_123 F r18 σ17
    )
  ) else (
    some (1001, σ)
  )
def zf_Tokens_readWord_40 (F : Nat) (k8 : Nat → Int32 → Int32 → Int64 → zs_S → Option (Nat × zs_S)) (x1 : Nat) (x2 : Int32) (x3 : Int32) (x4 : Int64) (σ : zs_S) : Option (Nat × zs_S) :=
  zq_g (zq_k 0 x1 1) <|
  zq_g (zq_b (zs_i σ 3 4) (zd_sh 0 x1).2) <|
  zq_v ((x4 <<< (((8 : Int32)).toInt64 &&& 63)) ||| (((zs_i σ x1 (zs_i σ 3 4).toNatClampNeg : Int32)).toInt64)) fun v13 =>
  zq_v (zs_wi σ 3 4 ((zs_i σ 3 4) + 1)) fun σ14 =>
  k8 x1 x2 x3 v13 σ14
def zf_Tokens_readWord_8 (F : Nat)  : Nat → Nat → Int32 → Int32 → Int64 → zs_S → Option (Nat × zs_S)
  | 0, _, _, _, _, _ => none
  | n + 1, x1, x2, x3, x4, σ =>
    if x2 ≤ (zs_i σ 3 4) then (
      zf_Tokens_readWord_68 F x3 x4 σ
    ) else (
      zq_g (zq_k 0 x1 1) <|
      zq_g (zq_b (zs_i σ 3 4) (zd_sh 0 x1).2) <|
      zq_c (zf_Tokens_isLetter F (zs_i σ x1 (zs_i σ 3 4).toNatClampNeg) σ) fun r5 σ4 =>
      if r5 = 0 then (
        zq_g (zq_b (zs_i σ4 3 4) (zd_sh 0 x1).2) <|
        zq_c (zf_Tokens_isDigit F (zs_i σ4 x1 (zs_i σ4 3 4).toNatClampNeg) σ4) fun r9 σ8 =>
        if r9 = 0 then (
          zf_Tokens_readWord_68 F x3 x4 σ8
        ) else (
          zf_Tokens_readWord_40 F (zf_Tokens_readWord_8 F n) x1 x2 x3 x4 σ8
        )
      ) else (
        zf_Tokens_readWord_40 F (zf_Tokens_readWord_8 F n) x1 x2 x3 x4 σ4
      )
    )
def zf_Tokens_readWord (F : Nat) (x1 : Nat) (x2 : Int32) (σ : zs_S) : Option (Nat × zs_S) :=
  zq_v (zs_i σ 3 4) fun v1 =>
  zf_Tokens_readWord_8 F F x1 x2 v1 0 σ
set_option maxHeartbeats 4000000 in
set_option maxRecDepth 100000 in
theorem zc_Tokens_readWord {l : Launch} {D : va_G} {cA : Nat → ClassId} {ad : Nat → Nat} {A : Nat → Prop} {F : Nat} {x1 : Nat} {x2 : Int32} {σ : zs_S} {q : Nat × zs_S} (hJ : zs_J ad) (hf : zf_Tokens_readWord F x1 x2 σ = some q) : Met l y_Tokens_readWord (.code y_Tokens_readWord prog_11_method_4_code 7 (some (.object "ScheduleCheck$Token")) :: zd_ww) { frames := 1, cells := 0, slots := 0, locals := 23 } (va_Pc [.ref (ad 3), .ref (ad x1), .int x2] (zs_U 0 D cA ad A σ)) (zs_Qr 0 D cA ad A q) 0 0 A := by
  refine Met.ofW (cc := prog_11_method_4_code) (maxL := 7) (ret := (some (.object "ScheduleCheck$Token"))) (by decide) rfl ?_
  intro p e s m args below meth c s₁ B hml hv
  obtain ⟨hargs, hP, hK, hD, hZ⟩ := hv
  have G : zs_G 0 p s m args c prog_11_method_4_code 7 "ScheduleCheck$Tokens" D cA ad A := ⟨⟨B.exec, B.bytes, hml, findClass_of_methodNamed B.named, fun w h => atoms_spec B.pre w (List.mem_cons_of_mem _ h)⟩, hK, hJ, hZ⟩
  have hw : zs_I 0 D cA ad A s σ s.heap [] := ⟨hP, hD, va_S.rf⟩
  have hx := G.1.1
  have hb := G.1.2.1
  have hown := G.1.2.2.2.1
  have hts := G.1.2.2.2.2
  have hr := B.returns
  have hlocks := B.notSynchronized
  have he : entryFrame m args 7 = F0 m 0 ((lg_sl [.ref (ad 3), .ref (ad x1), .int x2] ++ List.replicate (7 - (lg_sl [.ref (ad 3), .ref (ad x1), .int x2]).length) Slot.unset).toArray) [] := by rw [hargs]; exact lg_entry_eq m _ 7
  have hl := lv_entry [.ref (ad 3), .ref (ad x1), .int x2] (n := 7) (Nat.le_of_ble_eq_true rfl)
  rw [he]
  generalize (lg_sl [.ref (ad 3), .ref (ad x1), .int x2] ++ List.replicate (7 - (lg_sl [.ref (ad 3), .ref (ad x1), .int x2]).length) Slot.unset).toArray = ls at hl
  have hl : lv_has ls 7 [(0, .ref (ad 3)), (1, .ref (ad x1)), (2, .int x2)] := hl
  obtain ⟨RR, hR⟩ : ∃ z, z = (headSpec (.code y_Tokens_readWord prog_11_method_4_code 7 (some (.object "ScheduleCheck$Token")) :: zd_ww) { frames := 1, cells := 0, slots := 0, locals := 23 }).room := ⟨_, rfl⟩
  rw [← hR]
  obtain ⟨QQ, hQ⟩ : ∃ z, z = MQ below (zs_Qr 0 D cA ad A q) args s 0 0 A := ⟨_, rfl⟩
  rw [← hQ]
  have hR1 : 1 ≤ RR.frames := by rw [hR]; exact Nat.le_refl _
  have hR2 : 23 ≤ RR.locals := by rw [hR]; exact Nat.le_refl _
  generalize s.heap = H at hw ⊢
  generalize ([] : List Loc) = locs at hw ⊢
  have K123 : ∀ (t0 : Nat) (σ : zs_S) (H : Heap) (locs : List Loc) (ls : Array Slot), zf_Tokens_readWord_123 F t0 σ = some q → zs_I 0 D cA ad A s σ H locs → lv_has ls 7 [] → W p l e RR s m args below meth c H locs 0 0 QQ (F0 m 123 ls [.ref (ad t0)]) := by
    intro  t0 σ H locs ls hf hw hl
    unfold zf_Tokens_readWord_123 at hf
    exact zr_aret G hw hr (Or.inl ⟨_, rfl⟩) hlocks hf hQ d_Tokens_readWord_123
  have K68 : ∀ (x3 : Int32) (x4 : Int64) (σ : zs_S) (H : Heap) (locs : List Loc) (ls : Array Slot), zf_Tokens_readWord_68 F x3 x4 σ = some q → zs_I 0 D cA ad A s σ H locs → lv_has ls 7 [(0, .ref (ad 3)), (3, .int x3), (4, .long x4)] → W p l e RR s m args below meth c H locs 0 0 QQ (F0 m 68 ls []) := by
    intro  x3 x4 σ H locs ls hf hw hl
    unfold zf_Tokens_readWord_68 at hf
    refine lv_aload_n hx hb d_Tokens_readWord_68 rfl (lv_at hl 0 rfl) ?_
    refine zr_get (ci := 1) G hw 3 4 zi_1 rfl rfl rfl (by decide) zm_61 (fun _ h => h) (v := .int (zs_i σ 3 4)) rfl d_Tokens_readWord_69 ?_
    refine lv_iload_n hx hb d_Tokens_readWord_72 rfl (lv_at hl 1 rfl) ?_
    refine lv_isub hx hb d_Tokens_readWord_73 ?_
    refine lv_bipush (v := 8) hx hb d_Tokens_readWord_74 (by decide) ?_
    refine lv_icmp_le hx hb d_Tokens_readWord_76 (tgt := 83) rfl (fun hc => ?_) (fun hc => ?_)
    · have hf := (if_pos hc).symm.trans hf
      refine lv_aload_n hx hb d_Tokens_readWord_83 rfl (lv_at hl 0 rfl) ?_
      refine zr_get (ci := 1) G hw 3 2 zi_1 rfl rfl rfl (by decide) zm_69 (fun _ h => h) (v := .ref (ad 6)) rfl d_Tokens_readWord_84 ?_
      refine lv_aload_n hx hb d_Tokens_readWord_87 rfl (lv_at hl 0 rfl) ?_
      refine zr_get (ci := 1) G hw 3 3 zi_1 rfl rfl rfl (by decide) zm_70 (fun _ h => h) (v := .int (zs_i σ 3 3)) rfl d_Tokens_readWord_88 ?_
      refine lv_lload hx hb d_Tokens_readWord_91 (lv_at hl 2 rfl) ?_
      obtain ⟨hi15, hf⟩ := zq_gs hf
      obtain ⟨σ16, e_σ16, hf⟩ := zq_ss hf
      refine zr_last G hw 6 rfl rfl  hi15  d_Tokens_readWord_93 (fun H locs hw => ?_)
      rw [← e_σ16] at hw
      refine lv_lload hx hb d_Tokens_readWord_94 (lv_at hl 2 rfl) ?_
      refine lv_aload_n hx hb d_Tokens_readWord_96 rfl (lv_at hl 0 rfl) ?_
      refine zr_get (ci := 1) G hw 3 4 zi_1 rfl rfl rfl (by decide) zm_61 (fun _ h => h) (v := .int (zs_i σ16 3 4)) rfl d_Tokens_readWord_97 ?_
      refine lv_iload_n hx hb d_Tokens_readWord_100 rfl (lv_at hl 1 rfl) ?_
      refine lv_isub hx hb d_Tokens_readWord_101 ?_
      obtain ⟨r18, σ17, hc19, hf⟩ := zq_cs hf
      refine zr_cr hw (zr_runS (rest := []) G hw [.long x4, .int ((zs_i σ16 3 4) - x3)] (zc_Token_find hJ hc19) (va_cwS 2 hts (zs_gS zm_72 zm_73 zm_74 zm_71) rfl rfl rfl (by decide +kernel) ⟨Nat.le_trans (by decide) hR1, Nat.le_trans (by decide) hR2⟩) rfl hl.1 (Nat.le_of_ble_eq_true rfl) d_Tokens_readWord_102 ⟨Nat.zero_le _, Nat.zero_le _⟩) (fun H locs hw => ?_)
      refine lv_astore hx hb d_Tokens_readWord_105 hl (by decide) rfl (fun ls hl => ?_)
      have hl : lv_has ls 7 [(6, .ref (ad r18)), (0, .ref (ad 3)), (3, .int x3), (4, .long x4)] := hl
      refine lv_aload hx hb d_Tokens_readWord_107 (lv_at hl 0 rfl) ?_
      refine va_gets (C := "ScheduleCheck$Token") (n := "BAD") (d := "LScheduleCheck$Token;") (v := .ref (ad 1001)) hx hb ((G.2.2.2.1 rfl).1.1 1 (by decide)).1 hw.2.2 hown (hts _ zm_75) (fun _ h => h) d_Tokens_readWord_109 ?_
      obtain ⟨hm20, hf⟩ := zq_gs hf
      refine zr_ane G (of_decide_eq_true hm20) (by decide) d_Tokens_readWord_112 (tgt := 121) rfl (fun hc => ?_) (fun hc => ?_)
      · have hf := (if_neg hc).symm.trans hf
        refine lv_aload hx hb d_Tokens_readWord_121 (lv_at hl 0 rfl) ?_
        exact K123 r18 σ17 H locs ls hf hw (lv_sub hl [] rfl)
      · have hf := (if_pos hc).symm.trans hf
        refine va_gets (C := "ScheduleCheck$Token") (n := "NAME") (d := "LScheduleCheck$Token;") (v := .ref (ad 1002)) hx hb ((G.2.2.2.1 rfl).1.1 2 (by decide)).1 hw.2.2 hown (hts _ zm_76) (fun _ h => h) d_Tokens_readWord_115 ?_
        refine lv_goto hx hb d_Tokens_readWord_118 (tgt := 123) rfl ?_
        exact K123 1002 σ17 H locs ls hf hw (lv_sub hl [] rfl)
    · have hf := (if_neg hc).symm.trans hf
      refine va_gets (C := "ScheduleCheck$Token") (n := "BAD") (d := "LScheduleCheck$Token;") (v := .ref (ad 1001)) hx hb ((G.2.2.2.1 rfl).1.1 1 (by decide)).1 hw.2.2 hown (hts _ zm_75) (fun _ h => h) d_Tokens_readWord_79 ?_
      exact zr_aret G hw hr (Or.inl ⟨_, rfl⟩) hlocks hf hQ d_Tokens_readWord_82
  have K40 : ∀ (k8 : Nat → Int32 → Int32 → Int64 → zs_S → Option (Nat × zs_S)) (hk8 : ∀ (x1 : Nat) (x2 : Int32) (x3 : Int32) (x4 : Int64) (σ : zs_S) (H : Heap) (locs : List Loc) (ls : Array Slot), k8 x1 x2 x3 x4 σ = some q → zs_I 0 D cA ad A s σ H locs → lv_has ls 7 [(0, .ref (ad 3)), (1, .ref (ad x1)), (2, .int x2), (3, .int x3), (4, .long x4)] → W p l e RR s m args below meth c H locs 0 0 QQ (F0 m 8 ls [])) (x1 : Nat) (x2 : Int32) (x3 : Int32) (x4 : Int64) (σ : zs_S) (H : Heap) (locs : List Loc) (ls : Array Slot), zf_Tokens_readWord_40 F k8 x1 x2 x3 x4 σ = some q → zs_I 0 D cA ad A s σ H locs → lv_has ls 7 [(0, .ref (ad 3)), (1, .ref (ad x1)), (2, .int x2), (3, .int x3), (4, .long x4)] → W p l e RR s m args below meth c H locs 0 0 QQ (F0 m 40 ls []) := by
    intro k8 hk8 x1 x2 x3 x4 σ H locs ls hf hw hl
    unfold zf_Tokens_readWord_40 at hf
    refine lv_lload hx hb d_Tokens_readWord_40 (lv_at hl 4 rfl) ?_
    refine lv_bipush (v := 8) hx hb d_Tokens_readWord_42 (by decide) ?_
    refine lv_lshl hx hb d_Tokens_readWord_44 rfl ?_
    refine lv_aload_n hx hb d_Tokens_readWord_45 rfl (lv_at hl 1 rfl) ?_
    refine lv_aload_n hx hb d_Tokens_readWord_46 rfl (lv_at hl 0 rfl) ?_
    refine zr_get (ci := 1) G hw 3 4 zi_1 rfl rfl rfl (by decide) zm_61 (fun _ h => h) (v := .int (zs_i σ 3 4)) rfl d_Tokens_readWord_47 ?_
    obtain ⟨hs11, hf⟩ := zq_gs hf
    have hs11 := zq_ks hs11
    obtain ⟨hi12, hf⟩ := zq_gs hf
    refine zr_bald G hw x1 hs11 rfl hi12 d_Tokens_readWord_50 ?_
    refine lv_i2l hx hb d_Tokens_readWord_51 rfl ?_
    refine lv_lor hx hb d_Tokens_readWord_52 ?_
    refine lv_topl (fun v13 e_v13 => ?_)
    have hf := zq_vs e_v13 hf
    refine lv_lstore hx hb d_Tokens_readWord_53 hl (by decide) rfl (fun ls hl => ?_)
    have hl : lv_has ls 7 [(4, .long v13), (0, .ref (ad 3)), (1, .ref (ad x1)), (2, .int x2), (3, .int x3)] := hl
    refine lv_aload_n hx hb d_Tokens_readWord_55 rfl (lv_at hl 1 rfl) ?_
    refine lv_dup hx hb d_Tokens_readWord_56 rfl ?_
    refine zr_get (ci := 1) G hw 3 4 zi_1 rfl rfl rfl (by decide) zm_61 (fun _ h => h) (v := .int (zs_i σ 3 4)) rfl d_Tokens_readWord_57 ?_
    refine lv_iconst (v := 1) hx hb d_Tokens_readWord_60 (by decide) ?_
    refine lv_iadd hx hb d_Tokens_readWord_61 ?_
    obtain ⟨σ14, e_σ14, hf⟩ := zq_ss hf
    refine zr_puti (ci := 1) G hw 3 4 zi_1 t_zd1 t_zd1_ok n_zd1 rfl rfl rfl (by decide) rfl zm_61 (fun _ h => h) rfl (x := ((zs_i σ 3 4) + 1)) (t_zd1_ok 4 (by decide)) rfl rfl d_Tokens_readWord_62 (fun H locs hw => ?_)
    rw [← e_σ14] at hw
    refine lv_goto hx hb d_Tokens_readWord_65 (tgt := 8) rfl ?_
    exact hk8 x1 x2 x3 v13 σ14 H locs ls hf hw (lv_sub hl [1, 2, 3, 4, 0] rfl)
  have K8 : ∀ (n : Nat) (x1 : Nat) (x2 : Int32) (x3 : Int32) (x4 : Int64) (σ : zs_S) (H : Heap) (locs : List Loc) (ls : Array Slot), zf_Tokens_readWord_8 F n x1 x2 x3 x4 σ = some q → zs_I 0 D cA ad A s σ H locs → lv_has ls 7 [(0, .ref (ad 3)), (1, .ref (ad x1)), (2, .int x2), (3, .int x3), (4, .long x4)] → W p l e RR s m args below meth c H locs 0 0 QQ (F0 m 8 ls []) := by
    intro  n
    induction n with
    | zero => intro x1 x2 x3 x4 σ H locs ls hf hw hl; exact nomatch (show (none : Option (Nat × zs_S)) = some q from hf)
    | succ n ih =>
      intro x1 x2 x3 x4 σ H locs ls hf hw hl
      rw [zf_Tokens_readWord_8] at hf
      refine lv_aload_n hx hb d_Tokens_readWord_8 rfl (lv_at hl 0 rfl) ?_
      refine zr_get (ci := 1) G hw 3 4 zi_1 rfl rfl rfl (by decide) zm_61 (fun _ h => h) (v := .int (zs_i σ 3 4)) rfl d_Tokens_readWord_9 ?_
      refine lv_iload_n hx hb d_Tokens_readWord_12 rfl (lv_at hl 2 rfl) ?_
      refine lv_icmp_ge hx hb d_Tokens_readWord_13 (tgt := 68) rfl (fun hc => ?_) (fun hc => ?_)
      · have hf := (if_pos hc).symm.trans hf
        exact K68 x3 x4 σ H locs ls hf hw (lv_sub hl [0, 3, 4] rfl)
      · have hf := (if_neg hc).symm.trans hf
        refine lv_aload_n hx hb d_Tokens_readWord_16 rfl (lv_at hl 1 rfl) ?_
        refine lv_aload_n hx hb d_Tokens_readWord_17 rfl (lv_at hl 0 rfl) ?_
        refine zr_get (ci := 1) G hw 3 4 zi_1 rfl rfl rfl (by decide) zm_61 (fun _ h => h) (v := .int (zs_i σ 3 4)) rfl d_Tokens_readWord_18 ?_
        obtain ⟨hs2, hf⟩ := zq_gs hf
        have hs2 := zq_ks hs2
        obtain ⟨hi3, hf⟩ := zq_gs hf
        refine zr_bald G hw x1 hs2 rfl hi3 d_Tokens_readWord_21 ?_
        obtain ⟨r5, σ4, hc6, hf⟩ := zq_cs hf
        refine zr_ci hw (zr_runS (rest := []) G hw [.int (zs_i σ x1 (zs_i σ 3 4).toNatClampNeg)] (zc_Tokens_isLetter hJ hc6) (va_cwS 1 hts (zs_gS zm_63 zm_64 zm_65 zm_62) rfl rfl rfl (by decide +kernel) ⟨Nat.le_trans (by decide) hR1, Nat.le_trans (by decide) hR2⟩) rfl hl.1 (Nat.le_of_ble_eq_true rfl) d_Tokens_readWord_22 ⟨Nat.zero_le _, Nat.zero_le _⟩) (fun H locs hw => ?_)
        refine lv_if_ne hx hb d_Tokens_readWord_25 (tgt := 40) rfl (fun hc => ?_) (fun hc => ?_)
        · have hf := (if_neg hc).symm.trans hf
          exact K40 (zf_Tokens_readWord_8 F n) ih x1 x2 x3 x4 σ4 H locs ls hf hw (lv_sub hl [0, 1, 2, 3, 4] rfl)
        · have hf := (if_pos hc).symm.trans hf
          refine lv_aload_n hx hb d_Tokens_readWord_28 rfl (lv_at hl 1 rfl) ?_
          refine lv_aload_n hx hb d_Tokens_readWord_29 rfl (lv_at hl 0 rfl) ?_
          refine zr_get (ci := 1) G hw 3 4 zi_1 rfl rfl rfl (by decide) zm_61 (fun _ h => h) (v := .int (zs_i σ4 3 4)) rfl d_Tokens_readWord_30 ?_
          obtain ⟨hi7, hf⟩ := zq_gs hf
          refine zr_bald G hw x1 hs2 rfl hi7 d_Tokens_readWord_33 ?_
          obtain ⟨r9, σ8, hc10, hf⟩ := zq_cs hf
          refine zr_ci hw (zr_runS (rest := []) G hw [.int (zs_i σ4 x1 (zs_i σ4 3 4).toNatClampNeg)] (zc_Tokens_isDigit hJ hc10) (va_cwS 1 hts (zs_gS zm_67 zm_68 zm_65 zm_66) rfl rfl rfl (by decide +kernel) ⟨Nat.le_trans (by decide) hR1, Nat.le_trans (by decide) hR2⟩) rfl hl.1 (Nat.le_of_ble_eq_true rfl) d_Tokens_readWord_34 ⟨Nat.zero_le _, Nat.zero_le _⟩) (fun H locs hw => ?_)
          refine lv_if_eq hx hb d_Tokens_readWord_37 (tgt := 68) rfl (fun hc => ?_) (fun hc => ?_)
          · have hf := (if_pos hc).symm.trans hf
            exact K68 x3 x4 σ8 H locs ls hf hw (lv_sub hl [0, 3, 4] rfl)
          · have hf := (if_neg hc).symm.trans hf
            exact K40 (zf_Tokens_readWord_8 F n) ih x1 x2 x3 x4 σ8 H locs ls hf hw (lv_sub hl [0, 1, 2, 3, 4] rfl)
  unfold zf_Tokens_readWord at hf
  refine lv_aload_n hx hb d_Tokens_readWord_0 rfl (lv_at hl 0 rfl) ?_
  refine zr_get (ci := 1) G hw 3 4 zi_1 rfl rfl rfl (by decide) zm_61 (fun _ h => h) (v := .int (zs_i σ 3 4)) rfl d_Tokens_readWord_1 ?_
  refine lv_topi (fun v1 e_v1 => ?_)
  have hf := zq_vs e_v1 hf
  refine lv_istore_n hx hb d_Tokens_readWord_4 rfl hl (by decide) rfl (fun ls hl => ?_)
  have hl : lv_has ls 7 [(3, .int v1), (0, .ref (ad 3)), (1, .ref (ad x1)), (2, .int x2)] := hl
  refine lv_lconst (v := 0) hx hb d_Tokens_readWord_5 (by decide) ?_
  refine lv_lstore hx hb d_Tokens_readWord_6 hl (by decide) rfl (fun ls hl => ?_)
  have hl : lv_has ls 7 [(4, .long 0), (3, .int v1), (0, .ref (ad 3)), (1, .ref (ad x1)), (2, .int x2)] := hl
  exact K8 F x1 x2 v1 0 σ H locs ls hf hw (lv_sub hl [2, 3, 4, 1, 0] rfl)
/-! ScheduleCheck$Tokens.readNumber -/
def y_Tokens_readNumber : MethodName := ⟨"ScheduleCheck$Tokens","readNumber","([BI)LScheduleCheck$Token;"⟩
theorem d_Tokens_readNumber_0 : decode prog_11_method_5_code 0 = .ok (.iconst 0, 1) := by decide +kernel
theorem d_Tokens_readNumber_1 : decode prog_11_method_5_code 1 = .ok (.istore_n 3, 1) := by decide +kernel
theorem d_Tokens_readNumber_2 : decode prog_11_method_5_code 2 = .ok (.aload_n 0, 1) := by decide +kernel
theorem d_Tokens_readNumber_3 : decode prog_11_method_5_code 3 = .ok (.getfield 29, 3) := by decide +kernel
theorem d_Tokens_readNumber_6 : decode prog_11_method_5_code 6 = .ok (.iload_n 2, 1) := by decide +kernel
theorem d_Tokens_readNumber_7 : decode prog_11_method_5_code 7 = .ok (.if_icmp .ge 49, 3) := by decide +kernel
theorem d_Tokens_readNumber_10 : decode prog_11_method_5_code 10 = .ok (.aload_n 1, 1) := by decide +kernel
theorem d_Tokens_readNumber_11 : decode prog_11_method_5_code 11 = .ok (.aload_n 0, 1) := by decide +kernel
theorem d_Tokens_readNumber_12 : decode prog_11_method_5_code 12 = .ok (.getfield 29, 3) := by decide +kernel
theorem d_Tokens_readNumber_15 : decode prog_11_method_5_code 15 = .ok (.baload, 1) := by decide +kernel
theorem d_Tokens_readNumber_16 : decode prog_11_method_5_code 16 = .ok (.invokestatic 51, 3) := by decide +kernel
theorem d_Tokens_readNumber_19 : decode prog_11_method_5_code 19 = .ok (.ifCond .eq 37, 3) := by decide +kernel
theorem d_Tokens_readNumber_22 : decode prog_11_method_5_code 22 = .ok (.iload_n 3, 1) := by decide +kernel
theorem d_Tokens_readNumber_23 : decode prog_11_method_5_code 23 = .ok (.bipush 10, 2) := by decide +kernel
theorem d_Tokens_readNumber_25 : decode prog_11_method_5_code 25 = .ok (.imul, 1) := by decide +kernel
theorem d_Tokens_readNumber_26 : decode prog_11_method_5_code 26 = .ok (.aload_n 1, 1) := by decide +kernel
theorem d_Tokens_readNumber_27 : decode prog_11_method_5_code 27 = .ok (.aload_n 0, 1) := by decide +kernel
theorem d_Tokens_readNumber_28 : decode prog_11_method_5_code 28 = .ok (.getfield 29, 3) := by decide +kernel
theorem d_Tokens_readNumber_31 : decode prog_11_method_5_code 31 = .ok (.baload, 1) := by decide +kernel
theorem d_Tokens_readNumber_32 : decode prog_11_method_5_code 32 = .ok (.iadd, 1) := by decide +kernel
theorem d_Tokens_readNumber_33 : decode prog_11_method_5_code 33 = .ok (.bipush 48, 2) := by decide +kernel
theorem d_Tokens_readNumber_35 : decode prog_11_method_5_code 35 = .ok (.isub, 1) := by decide +kernel
theorem d_Tokens_readNumber_36 : decode prog_11_method_5_code 36 = .ok (.sipush 128, 3) := by decide +kernel
theorem d_Tokens_readNumber_39 : decode prog_11_method_5_code 39 = .ok (.invokestatic 67, 3) := by decide +kernel
theorem d_Tokens_readNumber_42 : decode prog_11_method_5_code 42 = .ok (.istore_n 3, 1) := by decide +kernel
theorem d_Tokens_readNumber_43 : decode prog_11_method_5_code 43 = .ok (.aload_n 0, 1) := by decide +kernel
theorem d_Tokens_readNumber_44 : decode prog_11_method_5_code 44 = .ok (.dup, 1) := by decide +kernel
theorem d_Tokens_readNumber_45 : decode prog_11_method_5_code 45 = .ok (.getfield 29, 3) := by decide +kernel
theorem d_Tokens_readNumber_48 : decode prog_11_method_5_code 48 = .ok (.iconst 1, 1) := by decide +kernel
theorem d_Tokens_readNumber_49 : decode prog_11_method_5_code 49 = .ok (.iadd, 1) := by decide +kernel
theorem d_Tokens_readNumber_50 : decode prog_11_method_5_code 50 = .ok (.putfield 29, 3) := by decide +kernel
theorem d_Tokens_readNumber_53 : decode prog_11_method_5_code 53 = .ok (.goto (-51), 3) := by decide +kernel
theorem d_Tokens_readNumber_56 : decode prog_11_method_5_code 56 = .ok (.aload_n 0, 1) := by decide +kernel
theorem d_Tokens_readNumber_57 : decode prog_11_method_5_code 57 = .ok (.getfield 21, 3) := by decide +kernel
theorem d_Tokens_readNumber_60 : decode prog_11_method_5_code 60 = .ok (.aload_n 0, 1) := by decide +kernel
theorem d_Tokens_readNumber_61 : decode prog_11_method_5_code 61 = .ok (.getfield 25, 3) := by decide +kernel
theorem d_Tokens_readNumber_64 : decode prog_11_method_5_code 64 = .ok (.iload_n 3, 1) := by decide +kernel
theorem d_Tokens_readNumber_65 : decode prog_11_method_5_code 65 = .ok (.i2l, 1) := by decide +kernel
theorem d_Tokens_readNumber_66 : decode prog_11_method_5_code 66 = .ok (.lastore, 1) := by decide +kernel
theorem d_Tokens_readNumber_67 : decode prog_11_method_5_code 67 = .ok (.iload_n 3, 1) := by decide +kernel
theorem d_Tokens_readNumber_68 : decode prog_11_method_5_code 68 = .ok (.bipush 127, 2) := by decide +kernel
theorem d_Tokens_readNumber_70 : decode prog_11_method_5_code 70 = .ok (.if_icmp .le 9, 3) := by decide +kernel
theorem d_Tokens_readNumber_73 : decode prog_11_method_5_code 73 = .ok (.getstatic 40, 3) := by decide +kernel
theorem d_Tokens_readNumber_76 : decode prog_11_method_5_code 76 = .ok (.goto 6, 3) := by decide +kernel
theorem d_Tokens_readNumber_79 : decode prog_11_method_5_code 79 = .ok (.getstatic 73, 3) := by decide +kernel
theorem d_Tokens_readNumber_82 : decode prog_11_method_5_code 82 = .ok (.areturn, 1) := by decide +kernel
def zf_Tokens_readNumber_82 (F : Nat)  (t0 : Nat) (σ : zs_S) : Option (Nat × zs_S) :=
  some (t0, σ)
def zf_Tokens_readNumber_56 (F : Nat)  (x3 : Int32) (σ : zs_S) : Option (Nat × zs_S) :=
  zq_g (zq_b (zs_i σ 3 3) 1601) <|
  zq_v (zs_wl σ 6 ((zs_i σ 3 3).toNatClampNeg) (((x3 : Int32)).toInt64)) fun σ20 =>
  if x3 ≤ 127 then (
    zf_Tokens_readNumber_82 F 1003 σ20
  ) else (
    zf_Tokens_readNumber_82 F 1001 σ20
  )
def zf_Tokens_readNumber_2 (F : Nat)  : Nat → Nat → Int32 → Int32 → zs_S → Option (Nat × zs_S)
  | 0, _, _, _, _ => none
  | n + 1, x1, x2, x3, σ =>
    if x2 ≤ (zs_i σ 3 4) then (
      zf_Tokens_readNumber_56 F x3 σ
    ) else (
      zq_g (zq_k 0 x1 1) <|
      zq_g (zq_b (zs_i σ 3 4) (zd_sh 0 x1).2) <|
      zq_c (zf_Tokens_isDigit F (zs_i σ x1 (zs_i σ 3 4).toNatClampNeg) σ) fun r14 σ13 =>
      if r14 = 0 then (
        zf_Tokens_readNumber_56 F x3 σ13
      ) else (
        zq_g (zq_b (zs_i σ13 3 4) (zd_sh 0 x1).2) <|
        zq_v (if 128 < ((x3 * 10) + (zs_i σ13 x1 (zs_i σ13 3 4).toNatClampNeg)) - 48 then 128 else ((x3 * 10) + (zs_i σ13 x1 (zs_i σ13 3 4).toNatClampNeg)) - 48) fun v17 =>
        zq_v (zs_wi σ13 3 4 ((zs_i σ13 3 4) + 1)) fun σ18 =>
        (zf_Tokens_readNumber_2 F n) x1 x2 v17 σ18
      )
    )
def zf_Tokens_readNumber (F : Nat) (x1 : Nat) (x2 : Int32) (σ : zs_S) : Option (Nat × zs_S) :=
  zf_Tokens_readNumber_2 F F x1 x2 0 σ
set_option maxHeartbeats 4000000 in
set_option maxRecDepth 100000 in
theorem zc_Tokens_readNumber {l : Launch} {D : va_G} {cA : Nat → ClassId} {ad : Nat → Nat} {A : Nat → Prop} {F : Nat} {x1 : Nat} {x2 : Int32} {σ : zs_S} {q : Nat × zs_S} (hJ : zs_J ad) (hf : zf_Tokens_readNumber F x1 x2 σ = some q) : Met l y_Tokens_readNumber (.code y_Tokens_readNumber prog_11_method_5_code 4 (some (.object "ScheduleCheck$Token")) :: zd_ww) { frames := 1, cells := 0, slots := 0, locals := 60 } (va_Pc [.ref (ad 3), .ref (ad x1), .int x2] (zs_U 0 D cA ad A σ)) (zs_Qr 0 D cA ad A q) 0 0 A := by
  refine Met.ofW (cc := prog_11_method_5_code) (maxL := 4) (ret := (some (.object "ScheduleCheck$Token"))) (by decide) rfl ?_
  intro p e s m args below meth c s₁ B hml hv
  obtain ⟨hargs, hP, hK, hD, hZ⟩ := hv
  have G : zs_G 0 p s m args c prog_11_method_5_code 4 "ScheduleCheck$Tokens" D cA ad A := ⟨⟨B.exec, B.bytes, hml, findClass_of_methodNamed B.named, fun w h => atoms_spec B.pre w (List.mem_cons_of_mem _ h)⟩, hK, hJ, hZ⟩
  have hw : zs_I 0 D cA ad A s σ s.heap [] := ⟨hP, hD, va_S.rf⟩
  have hx := G.1.1
  have hb := G.1.2.1
  have hown := G.1.2.2.2.1
  have hts := G.1.2.2.2.2
  have hr := B.returns
  have hlocks := B.notSynchronized
  have he : entryFrame m args 4 = F0 m 0 ((lg_sl [.ref (ad 3), .ref (ad x1), .int x2] ++ List.replicate (4 - (lg_sl [.ref (ad 3), .ref (ad x1), .int x2]).length) Slot.unset).toArray) [] := by rw [hargs]; exact lg_entry_eq m _ 4
  have hl := lv_entry [.ref (ad 3), .ref (ad x1), .int x2] (n := 4) (Nat.le_of_ble_eq_true rfl)
  rw [he]
  generalize (lg_sl [.ref (ad 3), .ref (ad x1), .int x2] ++ List.replicate (4 - (lg_sl [.ref (ad 3), .ref (ad x1), .int x2]).length) Slot.unset).toArray = ls at hl
  have hl : lv_has ls 4 [(0, .ref (ad 3)), (1, .ref (ad x1)), (2, .int x2)] := hl
  obtain ⟨RR, hR⟩ : ∃ z, z = (headSpec (.code y_Tokens_readNumber prog_11_method_5_code 4 (some (.object "ScheduleCheck$Token")) :: zd_ww) { frames := 1, cells := 0, slots := 0, locals := 60 }).room := ⟨_, rfl⟩
  rw [← hR]
  obtain ⟨QQ, hQ⟩ : ∃ z, z = MQ below (zs_Qr 0 D cA ad A q) args s 0 0 A := ⟨_, rfl⟩
  rw [← hQ]
  have hR1 : 1 ≤ RR.frames := by rw [hR]; exact Nat.le_refl _
  have hR2 : 60 ≤ RR.locals := by rw [hR]; exact Nat.le_refl _
  generalize s.heap = H at hw ⊢
  generalize ([] : List Loc) = locs at hw ⊢
  have K82 : ∀ (t0 : Nat) (σ : zs_S) (H : Heap) (locs : List Loc) (ls : Array Slot), zf_Tokens_readNumber_82 F t0 σ = some q → zs_I 0 D cA ad A s σ H locs → lv_has ls 4 [] → W p l e RR s m args below meth c H locs 0 0 QQ (F0 m 82 ls [.ref (ad t0)]) := by
    intro  t0 σ H locs ls hf hw hl
    unfold zf_Tokens_readNumber_82 at hf
    exact zr_aret G hw hr (Or.inl ⟨_, rfl⟩) hlocks hf hQ d_Tokens_readNumber_82
  have K56 : ∀ (x3 : Int32) (σ : zs_S) (H : Heap) (locs : List Loc) (ls : Array Slot), zf_Tokens_readNumber_56 F x3 σ = some q → zs_I 0 D cA ad A s σ H locs → lv_has ls 4 [(0, .ref (ad 3)), (3, .int x3)] → W p l e RR s m args below meth c H locs 0 0 QQ (F0 m 56 ls []) := by
    intro  x3 σ H locs ls hf hw hl
    unfold zf_Tokens_readNumber_56 at hf
    refine lv_aload_n hx hb d_Tokens_readNumber_56 rfl (lv_at hl 0 rfl) ?_
    refine zr_get (ci := 1) G hw 3 2 zi_1 rfl rfl rfl (by decide) zm_69 (fun _ h => h) (v := .ref (ad 6)) rfl d_Tokens_readNumber_57 ?_
    refine lv_aload_n hx hb d_Tokens_readNumber_60 rfl (lv_at hl 0 rfl) ?_
    refine zr_get (ci := 1) G hw 3 3 zi_1 rfl rfl rfl (by decide) zm_70 (fun _ h => h) (v := .int (zs_i σ 3 3)) rfl d_Tokens_readNumber_61 ?_
    refine lv_iload_n hx hb d_Tokens_readNumber_64 rfl (lv_at hl 1 rfl) ?_
    refine lv_i2l hx hb d_Tokens_readNumber_65 rfl ?_
    obtain ⟨hi19, hf⟩ := zq_gs hf
    obtain ⟨σ20, e_σ20, hf⟩ := zq_ss hf
    refine zr_last G hw 6 rfl rfl  hi19  d_Tokens_readNumber_66 (fun H locs hw => ?_)
    rw [← e_σ20] at hw
    refine lv_iload_n hx hb d_Tokens_readNumber_67 rfl (lv_at hl 1 rfl) ?_
    refine lv_bipush (v := 127) hx hb d_Tokens_readNumber_68 (by decide) ?_
    refine lv_icmp_le hx hb d_Tokens_readNumber_70 (tgt := 79) rfl (fun hc => ?_) (fun hc => ?_)
    · have hf := (if_pos hc).symm.trans hf
      refine va_gets (C := "ScheduleCheck$Token") (n := "NUMBER") (d := "LScheduleCheck$Token;") (v := .ref (ad 1003)) hx hb ((G.2.2.2.1 rfl).1.1 3 (by decide)).1 hw.2.2 hown (hts _ zm_81) (fun _ h => h) d_Tokens_readNumber_79 ?_
      exact K82 1003 σ20 H locs ls hf hw (lv_sub hl [] rfl)
    · have hf := (if_neg hc).symm.trans hf
      refine va_gets (C := "ScheduleCheck$Token") (n := "BAD") (d := "LScheduleCheck$Token;") (v := .ref (ad 1001)) hx hb ((G.2.2.2.1 rfl).1.1 1 (by decide)).1 hw.2.2 hown (hts _ zm_75) (fun _ h => h) d_Tokens_readNumber_73 ?_
      refine lv_goto hx hb d_Tokens_readNumber_76 (tgt := 82) rfl ?_
      exact K82 1001 σ20 H locs ls hf hw (lv_sub hl [] rfl)
  have K2 : ∀ (n : Nat) (x1 : Nat) (x2 : Int32) (x3 : Int32) (σ : zs_S) (H : Heap) (locs : List Loc) (ls : Array Slot), zf_Tokens_readNumber_2 F n x1 x2 x3 σ = some q → zs_I 0 D cA ad A s σ H locs → lv_has ls 4 [(0, .ref (ad 3)), (1, .ref (ad x1)), (2, .int x2), (3, .int x3)] → W p l e RR s m args below meth c H locs 0 0 QQ (F0 m 2 ls []) := by
    intro  n
    induction n with
    | zero => intro x1 x2 x3 σ H locs ls hf hw hl; exact nomatch (show (none : Option (Nat × zs_S)) = some q from hf)
    | succ n ih =>
      intro x1 x2 x3 σ H locs ls hf hw hl
      rw [zf_Tokens_readNumber_2] at hf
      refine lv_aload_n hx hb d_Tokens_readNumber_2 rfl (lv_at hl 0 rfl) ?_
      refine zr_get (ci := 1) G hw 3 4 zi_1 rfl rfl rfl (by decide) zm_61 (fun _ h => h) (v := .int (zs_i σ 3 4)) rfl d_Tokens_readNumber_3 ?_
      refine lv_iload_n hx hb d_Tokens_readNumber_6 rfl (lv_at hl 2 rfl) ?_
      refine lv_icmp_ge hx hb d_Tokens_readNumber_7 (tgt := 56) rfl (fun hc => ?_) (fun hc => ?_)
      · have hf := (if_pos hc).symm.trans hf
        exact K56 x3 σ H locs ls hf hw (lv_sub hl [0, 3] rfl)
      · have hf := (if_neg hc).symm.trans hf
        refine lv_aload_n hx hb d_Tokens_readNumber_10 rfl (lv_at hl 1 rfl) ?_
        refine lv_aload_n hx hb d_Tokens_readNumber_11 rfl (lv_at hl 0 rfl) ?_
        refine zr_get (ci := 1) G hw 3 4 zi_1 rfl rfl rfl (by decide) zm_61 (fun _ h => h) (v := .int (zs_i σ 3 4)) rfl d_Tokens_readNumber_12 ?_
        obtain ⟨hs11, hf⟩ := zq_gs hf
        have hs11 := zq_ks hs11
        obtain ⟨hi12, hf⟩ := zq_gs hf
        refine zr_bald G hw x1 hs11 rfl hi12 d_Tokens_readNumber_15 ?_
        obtain ⟨r14, σ13, hc15, hf⟩ := zq_cs hf
        refine zr_ci hw (zr_runS (rest := []) G hw [.int (zs_i σ x1 (zs_i σ 3 4).toNatClampNeg)] (zc_Tokens_isDigit hJ hc15) (va_cwS 1 hts (zs_gS zm_67 zm_68 zm_65 zm_66) rfl rfl rfl (by decide +kernel) ⟨Nat.le_trans (by decide) hR1, Nat.le_trans (by decide) hR2⟩) rfl hl.1 (Nat.le_of_ble_eq_true rfl) d_Tokens_readNumber_16 ⟨Nat.zero_le _, Nat.zero_le _⟩) (fun H locs hw => ?_)
        refine lv_if_eq hx hb d_Tokens_readNumber_19 (tgt := 56) rfl (fun hc => ?_) (fun hc => ?_)
        · have hf := (if_pos hc).symm.trans hf
          exact K56 x3 σ13 H locs ls hf hw (lv_sub hl [0, 3] rfl)
        · have hf := (if_neg hc).symm.trans hf
          refine lv_iload_n hx hb d_Tokens_readNumber_22 rfl (lv_at hl 3 rfl) ?_
          refine lv_bipush (v := 10) hx hb d_Tokens_readNumber_23 (by decide) ?_
          refine lv_imul hx hb d_Tokens_readNumber_25 ?_
          refine lv_aload_n hx hb d_Tokens_readNumber_26 rfl (lv_at hl 1 rfl) ?_
          refine lv_aload_n hx hb d_Tokens_readNumber_27 rfl (lv_at hl 0 rfl) ?_
          refine zr_get (ci := 1) G hw 3 4 zi_1 rfl rfl rfl (by decide) zm_61 (fun _ h => h) (v := .int (zs_i σ13 3 4)) rfl d_Tokens_readNumber_28 ?_
          obtain ⟨hi16, hf⟩ := zq_gs hf
          refine zr_bald G hw x1 hs11 rfl hi16 d_Tokens_readNumber_31 ?_
          refine lv_iadd hx hb d_Tokens_readNumber_32 ?_
          refine lv_bipush (v := 48) hx hb d_Tokens_readNumber_33 (by decide) ?_
          refine lv_isub hx hb d_Tokens_readNumber_35 ?_
          refine lv_sipush (v := 128) hx hb d_Tokens_readNumber_36 (by decide) ?_
          refine va_mmin hx hb (G.1.2.2.1.trans hl.1.symm) hown (hts _ zm_78) (hts _ zm_79) (hts _ zm_80) (hts _ zm_77) (Nat.le_trans (by decide) hR1) (Nat.le_trans (Nat.le_of_ble_eq_true rfl) hR2) (Nat.zero_le _) (Nat.zero_le _) d_Tokens_readNumber_39 ?_
          refine lv_topi (fun v17 e_v17 => ?_)
          have hf := zq_vs e_v17 hf
          refine lv_istore_n hx hb d_Tokens_readNumber_42 rfl hl (by decide) rfl (fun ls hl => ?_)
          have hl : lv_has ls 4 [(3, .int v17), (0, .ref (ad 3)), (1, .ref (ad x1)), (2, .int x2)] := hl
          refine lv_aload_n hx hb d_Tokens_readNumber_43 rfl (lv_at hl 1 rfl) ?_
          refine lv_dup hx hb d_Tokens_readNumber_44 rfl ?_
          refine zr_get (ci := 1) G hw 3 4 zi_1 rfl rfl rfl (by decide) zm_61 (fun _ h => h) (v := .int (zs_i σ13 3 4)) rfl d_Tokens_readNumber_45 ?_
          refine lv_iconst (v := 1) hx hb d_Tokens_readNumber_48 (by decide) ?_
          refine lv_iadd hx hb d_Tokens_readNumber_49 ?_
          obtain ⟨σ18, e_σ18, hf⟩ := zq_ss hf
          refine zr_puti (ci := 1) G hw 3 4 zi_1 t_zd1 t_zd1_ok n_zd1 rfl rfl rfl (by decide) rfl zm_61 (fun _ h => h) rfl (x := ((zs_i σ13 3 4) + 1)) (t_zd1_ok 4 (by decide)) rfl rfl d_Tokens_readNumber_50 (fun H locs hw => ?_)
          rw [← e_σ18] at hw
          refine lv_goto hx hb d_Tokens_readNumber_53 (tgt := 2) rfl ?_
          exact ih x1 x2 v17 σ18 H locs ls hf hw (lv_sub hl [1, 2, 3, 0] rfl)
  unfold zf_Tokens_readNumber at hf
  refine lv_iconst (v := 0) hx hb d_Tokens_readNumber_0 (by decide) ?_
  refine lv_istore_n hx hb d_Tokens_readNumber_1 rfl hl (by decide) rfl (fun ls hl => ?_)
  have hl : lv_has ls 4 [(3, .int 0), (0, .ref (ad 3)), (1, .ref (ad x1)), (2, .int x2)] := hl
  exact K2 F x1 x2 0 σ H locs ls hf hw (lv_sub hl [1, 2, 3, 0] rfl)
/-! ScheduleCheck$Tokens.readSign -/
def y_Tokens_readSign : MethodName := ⟨"ScheduleCheck$Tokens","readSign","([BI)LScheduleCheck$Token;"⟩
theorem d_Tokens_readSign_0 : decode prog_11_method_6_code 0 = .ok (.aload_n 1, 1) := by decide +kernel
theorem d_Tokens_readSign_1 : decode prog_11_method_6_code 1 = .ok (.aload_n 0, 1) := by decide +kernel
theorem d_Tokens_readSign_2 : decode prog_11_method_6_code 2 = .ok (.getfield 29, 3) := by decide +kernel
theorem d_Tokens_readSign_5 : decode prog_11_method_6_code 5 = .ok (.baload, 1) := by decide +kernel
theorem d_Tokens_readSign_6 : decode prog_11_method_6_code 6 = .ok (.sipush 255, 3) := by decide +kernel
theorem d_Tokens_readSign_9 : decode prog_11_method_6_code 9 = .ok (.iand, 1) := by decide +kernel
theorem d_Tokens_readSign_10 : decode prog_11_method_6_code 10 = .ok (.istore_n 3, 1) := by decide +kernel
theorem d_Tokens_readSign_11 : decode prog_11_method_6_code 11 = .ok (.aload_n 0, 1) := by decide +kernel
theorem d_Tokens_readSign_12 : decode prog_11_method_6_code 12 = .ok (.getfield 29, 3) := by decide +kernel
theorem d_Tokens_readSign_15 : decode prog_11_method_6_code 15 = .ok (.iconst 1, 1) := by decide +kernel
theorem d_Tokens_readSign_16 : decode prog_11_method_6_code 16 = .ok (.iadd, 1) := by decide +kernel
theorem d_Tokens_readSign_17 : decode prog_11_method_6_code 17 = .ok (.iload_n 2, 1) := by decide +kernel
theorem d_Tokens_readSign_18 : decode prog_11_method_6_code 18 = .ok (.if_icmp .ge 18, 3) := by decide +kernel
theorem d_Tokens_readSign_21 : decode prog_11_method_6_code 21 = .ok (.aload_n 1, 1) := by decide +kernel
theorem d_Tokens_readSign_22 : decode prog_11_method_6_code 22 = .ok (.aload_n 0, 1) := by decide +kernel
theorem d_Tokens_readSign_23 : decode prog_11_method_6_code 23 = .ok (.getfield 29, 3) := by decide +kernel
theorem d_Tokens_readSign_26 : decode prog_11_method_6_code 26 = .ok (.iconst 1, 1) := by decide +kernel
theorem d_Tokens_readSign_27 : decode prog_11_method_6_code 27 = .ok (.iadd, 1) := by decide +kernel
theorem d_Tokens_readSign_28 : decode prog_11_method_6_code 28 = .ok (.baload, 1) := by decide +kernel
theorem d_Tokens_readSign_29 : decode prog_11_method_6_code 29 = .ok (.sipush 255, 3) := by decide +kernel
theorem d_Tokens_readSign_32 : decode prog_11_method_6_code 32 = .ok (.iand, 1) := by decide +kernel
theorem d_Tokens_readSign_33 : decode prog_11_method_6_code 33 = .ok (.goto 4, 3) := by decide +kernel
theorem d_Tokens_readSign_36 : decode prog_11_method_6_code 36 = .ok (.iconst 0, 1) := by decide +kernel
theorem d_Tokens_readSign_37 : decode prog_11_method_6_code 37 = .ok (.istore 4, 2) := by decide +kernel
theorem d_Tokens_readSign_39 : decode prog_11_method_6_code 39 = .ok (.iload_n 3, 1) := by decide +kernel
theorem d_Tokens_readSign_40 : decode prog_11_method_6_code 40 = .ok (.bipush 8, 2) := by decide +kernel
theorem d_Tokens_readSign_42 : decode prog_11_method_6_code 42 = .ok (.ishl, 1) := by decide +kernel
theorem d_Tokens_readSign_43 : decode prog_11_method_6_code 43 = .ok (.iload 4, 2) := by decide +kernel
theorem d_Tokens_readSign_45 : decode prog_11_method_6_code 45 = .ok (.ior, 1) := by decide +kernel
theorem d_Tokens_readSign_46 : decode prog_11_method_6_code 46 = .ok (.i2l, 1) := by decide +kernel
theorem d_Tokens_readSign_47 : decode prog_11_method_6_code 47 = .ok (.iconst 2, 1) := by decide +kernel
theorem d_Tokens_readSign_48 : decode prog_11_method_6_code 48 = .ok (.invokestatic 60, 3) := by decide +kernel
theorem d_Tokens_readSign_51 : decode prog_11_method_6_code 51 = .ok (.astore 5, 2) := by decide +kernel
theorem d_Tokens_readSign_53 : decode prog_11_method_6_code 53 = .ok (.aload_n 0, 1) := by decide +kernel
theorem d_Tokens_readSign_54 : decode prog_11_method_6_code 54 = .ok (.dup, 1) := by decide +kernel
theorem d_Tokens_readSign_55 : decode prog_11_method_6_code 55 = .ok (.getfield 29, 3) := by decide +kernel
theorem d_Tokens_readSign_58 : decode prog_11_method_6_code 58 = .ok (.aload 5, 2) := by decide +kernel
theorem d_Tokens_readSign_60 : decode prog_11_method_6_code 60 = .ok (.getstatic 40, 3) := by decide +kernel
theorem d_Tokens_readSign_63 : decode prog_11_method_6_code 63 = .ok (.if_acmp .ne 7, 3) := by decide +kernel
theorem d_Tokens_readSign_66 : decode prog_11_method_6_code 66 = .ok (.iconst 1, 1) := by decide +kernel
theorem d_Tokens_readSign_67 : decode prog_11_method_6_code 67 = .ok (.goto 4, 3) := by decide +kernel
theorem d_Tokens_readSign_70 : decode prog_11_method_6_code 70 = .ok (.iconst 2, 1) := by decide +kernel
theorem d_Tokens_readSign_71 : decode prog_11_method_6_code 71 = .ok (.iadd, 1) := by decide +kernel
theorem d_Tokens_readSign_72 : decode prog_11_method_6_code 72 = .ok (.putfield 29, 3) := by decide +kernel
theorem d_Tokens_readSign_75 : decode prog_11_method_6_code 75 = .ok (.aload 5, 2) := by decide +kernel
theorem d_Tokens_readSign_77 : decode prog_11_method_6_code 77 = .ok (.getstatic 40, 3) := by decide +kernel
theorem d_Tokens_readSign_80 : decode prog_11_method_6_code 80 = .ok (.if_acmp .ne 12, 3) := by decide +kernel
theorem d_Tokens_readSign_83 : decode prog_11_method_6_code 83 = .ok (.iload_n 3, 1) := by decide +kernel
theorem d_Tokens_readSign_84 : decode prog_11_method_6_code 84 = .ok (.i2l, 1) := by decide +kernel
theorem d_Tokens_readSign_85 : decode prog_11_method_6_code 85 = .ok (.iconst 1, 1) := by decide +kernel
theorem d_Tokens_readSign_86 : decode prog_11_method_6_code 86 = .ok (.invokestatic 60, 3) := by decide +kernel
theorem d_Tokens_readSign_89 : decode prog_11_method_6_code 89 = .ok (.goto 5, 3) := by decide +kernel
theorem d_Tokens_readSign_92 : decode prog_11_method_6_code 92 = .ok (.aload 5, 2) := by decide +kernel
theorem d_Tokens_readSign_94 : decode prog_11_method_6_code 94 = .ok (.areturn, 1) := by decide +kernel
def zf_Tokens_readSign_94 (F : Nat)  (t0 : Nat) (σ : zs_S) : Option (Nat × zs_S) :=
  some (t0, σ)
def zf_Tokens_readSign_71 (F : Nat)  (x3 : Int32) (x5 : Nat) (t0 : Int32) (t1 : Int32) (σ : zs_S) : Option (Nat × zs_S) :=
  zq_v (zs_wi σ 3 4 (t1 + t0)) fun σ9 =>
  zq_g (decide (x5 < 1200)) <|
  if x5 = 1001 then (
    zq_c (zf_Token_find F (((x3 : Int32)).toInt64) 1 σ9) fun r12 σ11 =>
    zf_Tokens_readSign_94 F r12 σ11
  ) else (
    zf_Tokens_readSign_94 F x5 σ9
  )
def zf_Tokens_readSign_37 (F : Nat)  (x3 : Int32) (t0 : Int32) (σ : zs_S) : Option (Nat × zs_S) :=
  zq_c (zf_Token_find F ((((x3 <<< (8 &&& 31)) ||| t0 : Int32)).toInt64) 2 σ) fun r6 σ5 =>
  zq_g (decide (r6 < 1200)) <|
  if r6 = 1001 then (
    zf_Tokens_readSign_71 F x3 r6 1 (zs_i σ5 3 4) σ5
  ) else (
    zf_Tokens_readSign_71 F x3 r6 2 (zs_i σ5 3 4) σ5
  )
def zf_Tokens_readSign (F : Nat) (x1 : Nat) (x2 : Int32) (σ : zs_S) : Option (Nat × zs_S) :=
  zq_g (zq_k 0 x1 1) <|
  zq_g (zq_b (zs_i σ 3 4) (zd_sh 0 x1).2) <|
  zq_v ((zs_i σ x1 (zs_i σ 3 4).toNatClampNeg) &&& 255) fun v3 =>
  if x2 ≤ ((zs_i σ 3 4) + 1) then (
    zf_Tokens_readSign_37 F v3 0 σ
  ) else (
    zq_g (zq_b ((zs_i σ 3 4) + 1) (zd_sh 0 x1).2) <|
    zf_Tokens_readSign_37 F v3 ((zs_i σ x1 ((zs_i σ 3 4) + 1).toNatClampNeg) &&& 255) σ
  )
set_option maxHeartbeats 4000000 in
set_option maxRecDepth 100000 in
theorem zc_Tokens_readSign {l : Launch} {D : va_G} {cA : Nat → ClassId} {ad : Nat → Nat} {A : Nat → Prop} {F : Nat} {x1 : Nat} {x2 : Int32} {σ : zs_S} {q : Nat × zs_S} (hJ : zs_J ad) (hf : zf_Tokens_readSign F x1 x2 σ = some q) : Met l y_Tokens_readSign (.code y_Tokens_readSign prog_11_method_6_code 6 (some (.object "ScheduleCheck$Token")) :: zd_ww) { frames := 1, cells := 0, slots := 0, locals := 23 } (va_Pc [.ref (ad 3), .ref (ad x1), .int x2] (zs_U 0 D cA ad A σ)) (zs_Qr 0 D cA ad A q) 0 0 A := by
  refine Met.ofW (cc := prog_11_method_6_code) (maxL := 6) (ret := (some (.object "ScheduleCheck$Token"))) (by decide) rfl ?_
  intro p e s m args below meth c s₁ B hml hv
  obtain ⟨hargs, hP, hK, hD, hZ⟩ := hv
  have G : zs_G 0 p s m args c prog_11_method_6_code 6 "ScheduleCheck$Tokens" D cA ad A := ⟨⟨B.exec, B.bytes, hml, findClass_of_methodNamed B.named, fun w h => atoms_spec B.pre w (List.mem_cons_of_mem _ h)⟩, hK, hJ, hZ⟩
  have hw : zs_I 0 D cA ad A s σ s.heap [] := ⟨hP, hD, va_S.rf⟩
  have hx := G.1.1
  have hb := G.1.2.1
  have hown := G.1.2.2.2.1
  have hts := G.1.2.2.2.2
  have hr := B.returns
  have hlocks := B.notSynchronized
  have he : entryFrame m args 6 = F0 m 0 ((lg_sl [.ref (ad 3), .ref (ad x1), .int x2] ++ List.replicate (6 - (lg_sl [.ref (ad 3), .ref (ad x1), .int x2]).length) Slot.unset).toArray) [] := by rw [hargs]; exact lg_entry_eq m _ 6
  have hl := lv_entry [.ref (ad 3), .ref (ad x1), .int x2] (n := 6) (Nat.le_of_ble_eq_true rfl)
  rw [he]
  generalize (lg_sl [.ref (ad 3), .ref (ad x1), .int x2] ++ List.replicate (6 - (lg_sl [.ref (ad 3), .ref (ad x1), .int x2]).length) Slot.unset).toArray = ls at hl
  have hl : lv_has ls 6 [(0, .ref (ad 3)), (1, .ref (ad x1)), (2, .int x2)] := hl
  obtain ⟨RR, hR⟩ : ∃ z, z = (headSpec (.code y_Tokens_readSign prog_11_method_6_code 6 (some (.object "ScheduleCheck$Token")) :: zd_ww) { frames := 1, cells := 0, slots := 0, locals := 23 }).room := ⟨_, rfl⟩
  rw [← hR]
  obtain ⟨QQ, hQ⟩ : ∃ z, z = MQ below (zs_Qr 0 D cA ad A q) args s 0 0 A := ⟨_, rfl⟩
  rw [← hQ]
  have hR1 : 1 ≤ RR.frames := by rw [hR]; exact Nat.le_refl _
  have hR2 : 23 ≤ RR.locals := by rw [hR]; exact Nat.le_refl _
  generalize s.heap = H at hw ⊢
  generalize ([] : List Loc) = locs at hw ⊢
  have K94 : ∀ (t0 : Nat) (σ : zs_S) (H : Heap) (locs : List Loc) (ls : Array Slot), zf_Tokens_readSign_94 F t0 σ = some q → zs_I 0 D cA ad A s σ H locs → lv_has ls 6 [] → W p l e RR s m args below meth c H locs 0 0 QQ (F0 m 94 ls [.ref (ad t0)]) := by
    intro  t0 σ H locs ls hf hw hl
    unfold zf_Tokens_readSign_94 at hf
    exact zr_aret G hw hr (Or.inl ⟨_, rfl⟩) hlocks hf hQ d_Tokens_readSign_94
  have K71 : ∀ (x3 : Int32) (x5 : Nat) (t0 : Int32) (t1 : Int32) (σ : zs_S) (H : Heap) (locs : List Loc) (ls : Array Slot), zf_Tokens_readSign_71 F x3 x5 t0 t1 σ = some q → zs_I 0 D cA ad A s σ H locs → lv_has ls 6 [(3, .int x3), (5, .ref (ad x5))] → W p l e RR s m args below meth c H locs 0 0 QQ (F0 m 71 ls [.int t0, .int t1, .ref (ad 3)]) := by
    intro  x3 x5 t0 t1 σ H locs ls hf hw hl
    unfold zf_Tokens_readSign_71 at hf
    refine lv_iadd hx hb d_Tokens_readSign_71 ?_
    obtain ⟨σ9, e_σ9, hf⟩ := zq_ss hf
    refine zr_puti (ci := 1) G hw 3 4 zi_1 t_zd1 t_zd1_ok n_zd1 rfl rfl rfl (by decide) rfl zm_61 (fun _ h => h) rfl (x := (t1 + t0)) (t_zd1_ok 4 (by decide)) rfl rfl d_Tokens_readSign_72 (fun H locs hw => ?_)
    rw [← e_σ9] at hw
    refine lv_aload hx hb d_Tokens_readSign_75 (lv_at hl 1 rfl) ?_
    refine va_gets (C := "ScheduleCheck$Token") (n := "BAD") (d := "LScheduleCheck$Token;") (v := .ref (ad 1001)) hx hb ((G.2.2.2.1 rfl).1.1 1 (by decide)).1 hw.2.2 hown (hts _ zm_75) (fun _ h => h) d_Tokens_readSign_77 ?_
    obtain ⟨hm10, hf⟩ := zq_gs hf
    refine zr_ane G (of_decide_eq_true hm10) (by decide) d_Tokens_readSign_80 (tgt := 92) rfl (fun hc => ?_) (fun hc => ?_)
    · have hf := (if_neg hc).symm.trans hf
      refine lv_aload hx hb d_Tokens_readSign_92 (lv_at hl 1 rfl) ?_
      exact K94 x5 σ9 H locs ls hf hw (lv_sub hl [] rfl)
    · have hf := (if_pos hc).symm.trans hf
      refine lv_iload_n hx hb d_Tokens_readSign_83 rfl (lv_at hl 0 rfl) ?_
      refine lv_i2l hx hb d_Tokens_readSign_84 rfl ?_
      refine lv_iconst (v := 1) hx hb d_Tokens_readSign_85 (by decide) ?_
      obtain ⟨r12, σ11, hc13, hf⟩ := zq_cs hf
      refine zr_cr hw (zr_runS (rest := []) G hw [.long (((x3 : Int32)).toInt64), .int 1] (zc_Token_find hJ hc13) (va_cwS 2 hts (zs_gS zm_72 zm_73 zm_74 zm_71) rfl rfl rfl (by decide +kernel) ⟨Nat.le_trans (by decide) hR1, Nat.le_trans (by decide) hR2⟩) rfl hl.1 (Nat.le_of_ble_eq_true rfl) d_Tokens_readSign_86 ⟨Nat.zero_le _, Nat.zero_le _⟩) (fun H locs hw => ?_)
      refine lv_goto hx hb d_Tokens_readSign_89 (tgt := 94) rfl ?_
      exact K94 r12 σ11 H locs ls hf hw (lv_sub hl [] rfl)
  have K37 : ∀ (x3 : Int32) (t0 : Int32) (σ : zs_S) (H : Heap) (locs : List Loc) (ls : Array Slot), zf_Tokens_readSign_37 F x3 t0 σ = some q → zs_I 0 D cA ad A s σ H locs → lv_has ls 6 [(0, .ref (ad 3)), (3, .int x3)] → W p l e RR s m args below meth c H locs 0 0 QQ (F0 m 37 ls [.int t0]) := by
    intro  x3 t0 σ H locs ls hf hw hl
    unfold zf_Tokens_readSign_37 at hf
    refine lv_istore hx hb d_Tokens_readSign_37 hl (by decide) rfl (fun ls hl => ?_)
    have hl : lv_has ls 6 [(4, .int t0), (0, .ref (ad 3)), (3, .int x3)] := hl
    refine lv_iload_n hx hb d_Tokens_readSign_39 rfl (lv_at hl 2 rfl) ?_
    refine lv_bipush (v := 8) hx hb d_Tokens_readSign_40 (by decide) ?_
    refine lv_ishl hx hb d_Tokens_readSign_42 ?_
    refine lv_iload hx hb d_Tokens_readSign_43 (lv_at hl 0 rfl) ?_
    refine lv_ior hx hb d_Tokens_readSign_45 ?_
    refine lv_i2l hx hb d_Tokens_readSign_46 rfl ?_
    refine lv_iconst (v := 2) hx hb d_Tokens_readSign_47 (by decide) ?_
    obtain ⟨r6, σ5, hc7, hf⟩ := zq_cs hf
    refine zr_cr hw (zr_runS (rest := []) G hw [.long ((((x3 <<< (8 &&& 31)) ||| t0 : Int32)).toInt64), .int 2] (zc_Token_find hJ hc7) (va_cwS 2 hts (zs_gS zm_72 zm_73 zm_74 zm_71) rfl rfl rfl (by decide +kernel) ⟨Nat.le_trans (by decide) hR1, Nat.le_trans (by decide) hR2⟩) rfl hl.1 (Nat.le_of_ble_eq_true rfl) d_Tokens_readSign_48 ⟨Nat.zero_le _, Nat.zero_le _⟩) (fun H locs hw => ?_)
    refine lv_astore hx hb d_Tokens_readSign_51 hl (by decide) rfl (fun ls hl => ?_)
    have hl : lv_has ls 6 [(5, .ref (ad r6)), (4, .int t0), (0, .ref (ad 3)), (3, .int x3)] := hl
    refine lv_aload_n hx hb d_Tokens_readSign_53 rfl (lv_at hl 2 rfl) ?_
    refine lv_dup hx hb d_Tokens_readSign_54 rfl ?_
    refine zr_get (ci := 1) G hw 3 4 zi_1 rfl rfl rfl (by decide) zm_61 (fun _ h => h) (v := .int (zs_i σ5 3 4)) rfl d_Tokens_readSign_55 ?_
    refine lv_aload hx hb d_Tokens_readSign_58 (lv_at hl 0 rfl) ?_
    refine va_gets (C := "ScheduleCheck$Token") (n := "BAD") (d := "LScheduleCheck$Token;") (v := .ref (ad 1001)) hx hb ((G.2.2.2.1 rfl).1.1 1 (by decide)).1 hw.2.2 hown (hts _ zm_75) (fun _ h => h) d_Tokens_readSign_60 ?_
    obtain ⟨hm8, hf⟩ := zq_gs hf
    refine zr_ane G (of_decide_eq_true hm8) (by decide) d_Tokens_readSign_63 (tgt := 70) rfl (fun hc => ?_) (fun hc => ?_)
    · have hf := (if_neg hc).symm.trans hf
      refine lv_iconst (v := 2) hx hb d_Tokens_readSign_70 (by decide) ?_
      exact K71 x3 r6 2 (zs_i σ5 3 4) σ5 H locs ls hf hw (lv_sub hl [3, 0] rfl)
    · have hf := (if_pos hc).symm.trans hf
      refine lv_iconst (v := 1) hx hb d_Tokens_readSign_66 (by decide) ?_
      refine lv_goto hx hb d_Tokens_readSign_67 (tgt := 71) rfl ?_
      exact K71 x3 r6 1 (zs_i σ5 3 4) σ5 H locs ls hf hw (lv_sub hl [3, 0] rfl)
  unfold zf_Tokens_readSign at hf
  refine lv_aload_n hx hb d_Tokens_readSign_0 rfl (lv_at hl 1 rfl) ?_
  refine lv_aload_n hx hb d_Tokens_readSign_1 rfl (lv_at hl 0 rfl) ?_
  refine zr_get (ci := 1) G hw 3 4 zi_1 rfl rfl rfl (by decide) zm_61 (fun _ h => h) (v := .int (zs_i σ 3 4)) rfl d_Tokens_readSign_2 ?_
  obtain ⟨hs1, hf⟩ := zq_gs hf
  have hs1 := zq_ks hs1
  obtain ⟨hi2, hf⟩ := zq_gs hf
  refine zr_bald G hw x1 hs1 rfl hi2 d_Tokens_readSign_5 ?_
  refine lv_sipush (v := 255) hx hb d_Tokens_readSign_6 (by decide) ?_
  refine lv_iand hx hb d_Tokens_readSign_9 ?_
  refine lv_topi (fun v3 e_v3 => ?_)
  have hf := zq_vs e_v3 hf
  refine lv_istore_n hx hb d_Tokens_readSign_10 rfl hl (by decide) rfl (fun ls hl => ?_)
  have hl : lv_has ls 6 [(3, .int v3), (0, .ref (ad 3)), (1, .ref (ad x1)), (2, .int x2)] := hl
  refine lv_aload_n hx hb d_Tokens_readSign_11 rfl (lv_at hl 1 rfl) ?_
  refine zr_get (ci := 1) G hw 3 4 zi_1 rfl rfl rfl (by decide) zm_61 (fun _ h => h) (v := .int (zs_i σ 3 4)) rfl d_Tokens_readSign_12 ?_
  refine lv_iconst (v := 1) hx hb d_Tokens_readSign_15 (by decide) ?_
  refine lv_iadd hx hb d_Tokens_readSign_16 ?_
  refine lv_iload_n hx hb d_Tokens_readSign_17 rfl (lv_at hl 3 rfl) ?_
  refine lv_icmp_ge hx hb d_Tokens_readSign_18 (tgt := 36) rfl (fun hc => ?_) (fun hc => ?_)
  · have hf := (if_pos hc).symm.trans hf
    refine lv_iconst (v := 0) hx hb d_Tokens_readSign_36 (by decide) ?_
    exact K37 v3 0 σ H locs ls hf hw (lv_sub hl [1, 0] rfl)
  · have hf := (if_neg hc).symm.trans hf
    refine lv_aload_n hx hb d_Tokens_readSign_21 rfl (lv_at hl 2 rfl) ?_
    refine lv_aload_n hx hb d_Tokens_readSign_22 rfl (lv_at hl 1 rfl) ?_
    refine zr_get (ci := 1) G hw 3 4 zi_1 rfl rfl rfl (by decide) zm_61 (fun _ h => h) (v := .int (zs_i σ 3 4)) rfl d_Tokens_readSign_23 ?_
    refine lv_iconst (v := 1) hx hb d_Tokens_readSign_26 (by decide) ?_
    refine lv_iadd hx hb d_Tokens_readSign_27 ?_
    obtain ⟨hi4, hf⟩ := zq_gs hf
    refine zr_bald G hw x1 hs1 rfl hi4 d_Tokens_readSign_28 ?_
    refine lv_sipush (v := 255) hx hb d_Tokens_readSign_29 (by decide) ?_
    refine lv_iand hx hb d_Tokens_readSign_32 ?_
    refine lv_goto hx hb d_Tokens_readSign_33 (tgt := 37) rfl ?_
    exact K37 v3 ((zs_i σ x1 ((zs_i σ 3 4) + 1).toNatClampNeg) &&& 255) σ H locs ls hf hw (lv_sub hl [1, 0] rfl)
/-! ScheduleCheck$Tokens.addToken -/
def y_Tokens_addToken : MethodName := ⟨"ScheduleCheck$Tokens","addToken","([BI)V"⟩
theorem d_Tokens_addToken_0 : decode prog_11_method_3_code 0 = .ok (.aload_n 0, 1) := by decide +kernel
theorem d_Tokens_addToken_1 : decode prog_11_method_3_code 1 = .ok (.getfield 17, 3) := by decide +kernel
theorem d_Tokens_addToken_4 : decode prog_11_method_3_code 4 = .ok (.aload_n 0, 1) := by decide +kernel
theorem d_Tokens_addToken_5 : decode prog_11_method_3_code 5 = .ok (.getfield 25, 3) := by decide +kernel
theorem d_Tokens_addToken_8 : decode prog_11_method_3_code 8 = .ok (.aload_n 0, 1) := by decide +kernel
theorem d_Tokens_addToken_9 : decode prog_11_method_3_code 9 = .ok (.getfield 29, 3) := by decide +kernel
theorem d_Tokens_addToken_12 : decode prog_11_method_3_code 12 = .ok (.iastore, 1) := by decide +kernel
theorem d_Tokens_addToken_13 : decode prog_11_method_3_code 13 = .ok (.aload_n 0, 1) := by decide +kernel
theorem d_Tokens_addToken_14 : decode prog_11_method_3_code 14 = .ok (.getfield 29, 3) := by decide +kernel
theorem d_Tokens_addToken_17 : decode prog_11_method_3_code 17 = .ok (.iload_n 2, 1) := by decide +kernel
theorem d_Tokens_addToken_18 : decode prog_11_method_3_code 18 = .ok (.if_icmp .lt 18, 3) := by decide +kernel
theorem d_Tokens_addToken_21 : decode prog_11_method_3_code 21 = .ok (.aload_n 0, 1) := by decide +kernel
theorem d_Tokens_addToken_22 : decode prog_11_method_3_code 22 = .ok (.getfield 11, 3) := by decide +kernel
theorem d_Tokens_addToken_25 : decode prog_11_method_3_code 25 = .ok (.aload_n 0, 1) := by decide +kernel
theorem d_Tokens_addToken_26 : decode prog_11_method_3_code 26 = .ok (.getfield 25, 3) := by decide +kernel
theorem d_Tokens_addToken_29 : decode prog_11_method_3_code 29 = .ok (.getstatic 36, 3) := by decide +kernel
theorem d_Tokens_addToken_32 : decode prog_11_method_3_code 32 = .ok (.aastore, 1) := by decide +kernel
theorem d_Tokens_addToken_33 : decode prog_11_method_3_code 33 = .ok (.goto 78, 3) := by decide +kernel
theorem d_Tokens_addToken_36 : decode prog_11_method_3_code 36 = .ok (.aload_n 1, 1) := by decide +kernel
theorem d_Tokens_addToken_37 : decode prog_11_method_3_code 37 = .ok (.aload_n 0, 1) := by decide +kernel
theorem d_Tokens_addToken_38 : decode prog_11_method_3_code 38 = .ok (.getfield 29, 3) := by decide +kernel
theorem d_Tokens_addToken_41 : decode prog_11_method_3_code 41 = .ok (.baload, 1) := by decide +kernel
theorem d_Tokens_addToken_42 : decode prog_11_method_3_code 42 = .ok (.invokestatic 43, 3) := by decide +kernel
theorem d_Tokens_addToken_45 : decode prog_11_method_3_code 45 = .ok (.ifCond .eq 21, 3) := by decide +kernel
theorem d_Tokens_addToken_48 : decode prog_11_method_3_code 48 = .ok (.aload_n 0, 1) := by decide +kernel
theorem d_Tokens_addToken_49 : decode prog_11_method_3_code 49 = .ok (.getfield 11, 3) := by decide +kernel
theorem d_Tokens_addToken_52 : decode prog_11_method_3_code 52 = .ok (.aload_n 0, 1) := by decide +kernel
theorem d_Tokens_addToken_53 : decode prog_11_method_3_code 53 = .ok (.getfield 25, 3) := by decide +kernel
theorem d_Tokens_addToken_56 : decode prog_11_method_3_code 56 = .ok (.aload_n 0, 1) := by decide +kernel
theorem d_Tokens_addToken_57 : decode prog_11_method_3_code 57 = .ok (.aload_n 1, 1) := by decide +kernel
theorem d_Tokens_addToken_58 : decode prog_11_method_3_code 58 = .ok (.iload_n 2, 1) := by decide +kernel
theorem d_Tokens_addToken_59 : decode prog_11_method_3_code 59 = .ok (.invokevirtual 47, 3) := by decide +kernel
theorem d_Tokens_addToken_62 : decode prog_11_method_3_code 62 = .ok (.aastore, 1) := by decide +kernel
theorem d_Tokens_addToken_63 : decode prog_11_method_3_code 63 = .ok (.goto 48, 3) := by decide +kernel
theorem d_Tokens_addToken_66 : decode prog_11_method_3_code 66 = .ok (.aload_n 1, 1) := by decide +kernel
theorem d_Tokens_addToken_67 : decode prog_11_method_3_code 67 = .ok (.aload_n 0, 1) := by decide +kernel
theorem d_Tokens_addToken_68 : decode prog_11_method_3_code 68 = .ok (.getfield 29, 3) := by decide +kernel
theorem d_Tokens_addToken_71 : decode prog_11_method_3_code 71 = .ok (.baload, 1) := by decide +kernel
theorem d_Tokens_addToken_72 : decode prog_11_method_3_code 72 = .ok (.invokestatic 51, 3) := by decide +kernel
theorem d_Tokens_addToken_75 : decode prog_11_method_3_code 75 = .ok (.ifCond .eq 21, 3) := by decide +kernel
theorem d_Tokens_addToken_78 : decode prog_11_method_3_code 78 = .ok (.aload_n 0, 1) := by decide +kernel
theorem d_Tokens_addToken_79 : decode prog_11_method_3_code 79 = .ok (.getfield 11, 3) := by decide +kernel
theorem d_Tokens_addToken_82 : decode prog_11_method_3_code 82 = .ok (.aload_n 0, 1) := by decide +kernel
theorem d_Tokens_addToken_83 : decode prog_11_method_3_code 83 = .ok (.getfield 25, 3) := by decide +kernel
theorem d_Tokens_addToken_86 : decode prog_11_method_3_code 86 = .ok (.aload_n 0, 1) := by decide +kernel
theorem d_Tokens_addToken_87 : decode prog_11_method_3_code 87 = .ok (.aload_n 1, 1) := by decide +kernel
theorem d_Tokens_addToken_88 : decode prog_11_method_3_code 88 = .ok (.iload_n 2, 1) := by decide +kernel
theorem d_Tokens_addToken_89 : decode prog_11_method_3_code 89 = .ok (.invokevirtual 54, 3) := by decide +kernel
theorem d_Tokens_addToken_92 : decode prog_11_method_3_code 92 = .ok (.aastore, 1) := by decide +kernel
theorem d_Tokens_addToken_93 : decode prog_11_method_3_code 93 = .ok (.goto 18, 3) := by decide +kernel
theorem d_Tokens_addToken_96 : decode prog_11_method_3_code 96 = .ok (.aload_n 0, 1) := by decide +kernel
theorem d_Tokens_addToken_97 : decode prog_11_method_3_code 97 = .ok (.getfield 11, 3) := by decide +kernel
theorem d_Tokens_addToken_100 : decode prog_11_method_3_code 100 = .ok (.aload_n 0, 1) := by decide +kernel
theorem d_Tokens_addToken_101 : decode prog_11_method_3_code 101 = .ok (.getfield 25, 3) := by decide +kernel
theorem d_Tokens_addToken_104 : decode prog_11_method_3_code 104 = .ok (.aload_n 0, 1) := by decide +kernel
theorem d_Tokens_addToken_105 : decode prog_11_method_3_code 105 = .ok (.aload_n 1, 1) := by decide +kernel
theorem d_Tokens_addToken_106 : decode prog_11_method_3_code 106 = .ok (.iload_n 2, 1) := by decide +kernel
theorem d_Tokens_addToken_107 : decode prog_11_method_3_code 107 = .ok (.invokevirtual 57, 3) := by decide +kernel
theorem d_Tokens_addToken_110 : decode prog_11_method_3_code 110 = .ok (.aastore, 1) := by decide +kernel
theorem d_Tokens_addToken_111 : decode prog_11_method_3_code 111 = .ok (.aload_n 0, 1) := by decide +kernel
theorem d_Tokens_addToken_112 : decode prog_11_method_3_code 112 = .ok (.dup, 1) := by decide +kernel
theorem d_Tokens_addToken_113 : decode prog_11_method_3_code 113 = .ok (.getfield 25, 3) := by decide +kernel
theorem d_Tokens_addToken_116 : decode prog_11_method_3_code 116 = .ok (.iconst 1, 1) := by decide +kernel
theorem d_Tokens_addToken_117 : decode prog_11_method_3_code 117 = .ok (.iadd, 1) := by decide +kernel
theorem d_Tokens_addToken_118 : decode prog_11_method_3_code 118 = .ok (.putfield 25, 3) := by decide +kernel
theorem d_Tokens_addToken_121 : decode prog_11_method_3_code 121 = .ok (.return_, 1) := by decide +kernel
def zf_Tokens_addToken_111 (F : Nat)   (σ : zs_S) : Option (zs_S) :=
  zq_v (zs_wi σ 3 3 ((zs_i σ 3 3) + 1)) fun σ32 =>
  some σ32
def zf_Tokens_addToken (F : Nat) (x1 : Nat) (x2 : Int32) (σ : zs_S) : Option (zs_S) :=
  zq_g (zq_b (zs_i σ 3 3) 1601) <|
  zq_v (zs_wi σ 5 ((zs_i σ 3 3).toNatClampNeg) (zs_i σ 3 4)) fun σ2 =>
  if (zs_i σ2 3 4) < x2 then (
    zq_g (zq_k 0 x1 1) <|
    zq_g (zq_b (zs_i σ2 3 4) (zd_sh 0 x1).2) <|
    zq_c (zf_Tokens_isLetter F (zs_i σ2 x1 (zs_i σ2 3 4).toNatClampNeg) σ2) fun r6 σ5 =>
    if r6 = 0 then (
      zq_g (zq_b (zs_i σ5 3 4) (zd_sh 0 x1).2) <|
      zq_c (zf_Tokens_isDigit F (zs_i σ5 x1 (zs_i σ5 3 4).toNatClampNeg) σ5) fun r10 σ9 =>
      if r10 = 0 then (
        zq_c (zf_Tokens_readSign F x1 x2 σ9) fun r13 σ12 =>
        zq_g (zq_b (zs_i σ9 3 3) 1601) <|
        zq_g (zq_t r13) <|
        zq_v (zs_wr σ12 4 ((zs_i σ9 3 3).toNatClampNeg) r13) fun σ16 =>
        zf_Tokens_addToken_111 F σ16
      ) else (
        zq_c (zf_Tokens_readNumber F x1 x2 σ9) fun r19 σ18 =>
        zq_g (zq_b (zs_i σ9 3 3) 1601) <|
        zq_g (zq_t r19) <|
        zq_v (zs_wr σ18 4 ((zs_i σ9 3 3).toNatClampNeg) r19) fun σ22 =>
        zf_Tokens_addToken_111 F σ22
      )
    ) else (
      zq_c (zf_Tokens_readWord F x1 x2 σ5) fun r25 σ24 =>
      zq_g (zq_b (zs_i σ5 3 3) 1601) <|
      zq_g (zq_t r25) <|
      zq_v (zs_wr σ24 4 ((zs_i σ5 3 3).toNatClampNeg) r25) fun σ28 =>
      zf_Tokens_addToken_111 F σ28
    )
  ) else (
    zq_g (zq_b (zs_i σ2 3 3) 1601) <|
    zq_v (zs_wr σ2 4 ((zs_i σ2 3 3).toNatClampNeg) 1000) fun σ31 =>
    zf_Tokens_addToken_111 F σ31
  )
set_option maxHeartbeats 4000000 in
set_option maxRecDepth 100000 in
theorem zc_Tokens_addToken {l : Launch} {D : va_G} {cA : Nat → ClassId} {ad : Nat → Nat} {A : Nat → Prop} {F : Nat} {x1 : Nat} {x2 : Int32} {σ : zs_S} {q : zs_S} (hJ : zs_J ad) (hf : zf_Tokens_addToken F x1 x2 σ = some q) : Met l y_Tokens_addToken (.code y_Tokens_addToken prog_11_method_3_code 3 none :: zd_ww) { frames := 2, cells := 0, slots := 0, locals := 83 } (va_Pc [.ref (ad 3), .ref (ad x1), .int x2] (zs_U 0 D cA ad A σ)) (zs_Qv 0 D cA ad A q) 0 0 A := by
  refine Met.ofW (cc := prog_11_method_3_code) (maxL := 3) (ret := none) (by decide) rfl ?_
  intro p e s m args below meth c s₁ B hml hv
  obtain ⟨hargs, hP, hK, hD, hZ⟩ := hv
  have G : zs_G 0 p s m args c prog_11_method_3_code 3 "ScheduleCheck$Tokens" D cA ad A := ⟨⟨B.exec, B.bytes, hml, findClass_of_methodNamed B.named, fun w h => atoms_spec B.pre w (List.mem_cons_of_mem _ h)⟩, hK, hJ, hZ⟩
  have hw : zs_I 0 D cA ad A s σ s.heap [] := ⟨hP, hD, va_S.rf⟩
  have hx := G.1.1
  have hb := G.1.2.1
  have hown := G.1.2.2.2.1
  have hts := G.1.2.2.2.2
  have hr := B.returns
  have hlocks := B.notSynchronized
  have he : entryFrame m args 3 = F0 m 0 ((lg_sl [.ref (ad 3), .ref (ad x1), .int x2] ++ List.replicate (3 - (lg_sl [.ref (ad 3), .ref (ad x1), .int x2]).length) Slot.unset).toArray) [] := by rw [hargs]; exact lg_entry_eq m _ 3
  have hl := lv_entry [.ref (ad 3), .ref (ad x1), .int x2] (n := 3) (Nat.le_of_ble_eq_true rfl)
  rw [he]
  generalize (lg_sl [.ref (ad 3), .ref (ad x1), .int x2] ++ List.replicate (3 - (lg_sl [.ref (ad 3), .ref (ad x1), .int x2]).length) Slot.unset).toArray = ls at hl
  have hl : lv_has ls 3 [(0, .ref (ad 3)), (1, .ref (ad x1)), (2, .int x2)] := hl
  obtain ⟨RR, hR⟩ : ∃ z, z = (headSpec (.code y_Tokens_addToken prog_11_method_3_code 3 none :: zd_ww) { frames := 2, cells := 0, slots := 0, locals := 83 }).room := ⟨_, rfl⟩
  rw [← hR]
  obtain ⟨QQ, hQ⟩ : ∃ z, z = MQ below (zs_Qv 0 D cA ad A q) args s 0 0 A := ⟨_, rfl⟩
  rw [← hQ]
  have hR1 : 2 ≤ RR.frames := by rw [hR]; exact Nat.le_refl _
  have hR2 : 83 ≤ RR.locals := by rw [hR]; exact Nat.le_refl _
  generalize s.heap = H at hw ⊢
  generalize ([] : List Loc) = locs at hw ⊢
  have K111 : ∀ (σ : zs_S) (H : Heap) (locs : List Loc) (ls : Array Slot), zf_Tokens_addToken_111 F σ = some q → zs_I 0 D cA ad A s σ H locs → lv_has ls 3 [(0, .ref (ad 3))] → W p l e RR s m args below meth c H locs 0 0 QQ (F0 m 111 ls []) := by
    intro   σ H locs ls hf hw hl
    unfold zf_Tokens_addToken_111 at hf
    refine lv_aload_n hx hb d_Tokens_addToken_111 rfl (lv_at hl 0 rfl) ?_
    refine lv_dup hx hb d_Tokens_addToken_112 rfl ?_
    refine zr_get (ci := 1) G hw 3 3 zi_1 rfl rfl rfl (by decide) zm_70 (fun _ h => h) (v := .int (zs_i σ 3 3)) rfl d_Tokens_addToken_113 ?_
    refine lv_iconst (v := 1) hx hb d_Tokens_addToken_116 (by decide) ?_
    refine lv_iadd hx hb d_Tokens_addToken_117 ?_
    obtain ⟨σ32, e_σ32, hf⟩ := zq_ss hf
    refine zr_puti (ci := 1) G hw 3 3 zi_1 t_zd1 t_zd1_ok n_zd1 rfl rfl rfl (by decide) rfl zm_70 (fun _ h => h) rfl (x := ((zs_i σ 3 3) + 1)) (t_zd1_ok 3 (by decide)) rfl rfl d_Tokens_addToken_118 (fun H locs hw => ?_)
    rw [← e_σ32] at hw
    exact zr_vret G hw hr hlocks hf hQ d_Tokens_addToken_121
  unfold zf_Tokens_addToken at hf
  refine lv_aload_n hx hb d_Tokens_addToken_0 rfl (lv_at hl 0 rfl) ?_
  refine zr_get (ci := 1) G hw 3 1 zi_1 rfl rfl rfl (by decide) zm_82 (fun _ h => h) (v := .ref (ad 5)) rfl d_Tokens_addToken_1 ?_
  refine lv_aload_n hx hb d_Tokens_addToken_4 rfl (lv_at hl 0 rfl) ?_
  refine zr_get (ci := 1) G hw 3 3 zi_1 rfl rfl rfl (by decide) zm_70 (fun _ h => h) (v := .int (zs_i σ 3 3)) rfl d_Tokens_addToken_5 ?_
  refine lv_aload_n hx hb d_Tokens_addToken_8 rfl (lv_at hl 0 rfl) ?_
  refine zr_get (ci := 1) G hw 3 4 zi_1 rfl rfl rfl (by decide) zm_61 (fun _ h => h) (v := .int (zs_i σ 3 4)) rfl d_Tokens_addToken_9 ?_
  obtain ⟨hi1, hf⟩ := zq_gs hf
  obtain ⟨σ2, e_σ2, hf⟩ := zq_ss hf
  refine zr_iast G hw 5 rfl rfl hi1 d_Tokens_addToken_12 (fun H locs hw => ?_)
  rw [← e_σ2] at hw
  refine lv_aload_n hx hb d_Tokens_addToken_13 rfl (lv_at hl 0 rfl) ?_
  refine zr_get (ci := 1) G hw 3 4 zi_1 rfl rfl rfl (by decide) zm_61 (fun _ h => h) (v := .int (zs_i σ2 3 4)) rfl d_Tokens_addToken_14 ?_
  refine lv_iload_n hx hb d_Tokens_addToken_17 rfl (lv_at hl 2 rfl) ?_
  refine lv_icmp_lt hx hb d_Tokens_addToken_18 (tgt := 36) rfl (fun hc => ?_) (fun hc => ?_)
  · have hf := (if_pos hc).symm.trans hf
    refine lv_aload_n hx hb d_Tokens_addToken_36 rfl (lv_at hl 1 rfl) ?_
    refine lv_aload_n hx hb d_Tokens_addToken_37 rfl (lv_at hl 0 rfl) ?_
    refine zr_get (ci := 1) G hw 3 4 zi_1 rfl rfl rfl (by decide) zm_61 (fun _ h => h) (v := .int (zs_i σ2 3 4)) rfl d_Tokens_addToken_38 ?_
    obtain ⟨hs3, hf⟩ := zq_gs hf
    have hs3 := zq_ks hs3
    obtain ⟨hi4, hf⟩ := zq_gs hf
    refine zr_bald G hw x1 hs3 rfl hi4 d_Tokens_addToken_41 ?_
    obtain ⟨r6, σ5, hc7, hf⟩ := zq_cs hf
    refine zr_ci hw (zr_runS (rest := []) G hw [.int (zs_i σ2 x1 (zs_i σ2 3 4).toNatClampNeg)] (zc_Tokens_isLetter hJ hc7) (va_cwS 1 hts (zs_gS zm_63 zm_64 zm_65 zm_62) rfl rfl rfl (by decide +kernel) ⟨Nat.le_trans (by decide) hR1, Nat.le_trans (by decide) hR2⟩) rfl hl.1 (Nat.le_of_ble_eq_true rfl) d_Tokens_addToken_42 ⟨Nat.zero_le _, Nat.zero_le _⟩) (fun H locs hw => ?_)
    refine lv_if_eq hx hb d_Tokens_addToken_45 (tgt := 66) rfl (fun hc => ?_) (fun hc => ?_)
    · have hf := (if_pos hc).symm.trans hf
      refine lv_aload_n hx hb d_Tokens_addToken_66 rfl (lv_at hl 1 rfl) ?_
      refine lv_aload_n hx hb d_Tokens_addToken_67 rfl (lv_at hl 0 rfl) ?_
      refine zr_get (ci := 1) G hw 3 4 zi_1 rfl rfl rfl (by decide) zm_61 (fun _ h => h) (v := .int (zs_i σ5 3 4)) rfl d_Tokens_addToken_68 ?_
      obtain ⟨hi8, hf⟩ := zq_gs hf
      refine zr_bald G hw x1 hs3 rfl hi8 d_Tokens_addToken_71 ?_
      obtain ⟨r10, σ9, hc11, hf⟩ := zq_cs hf
      refine zr_ci hw (zr_runS (rest := []) G hw [.int (zs_i σ5 x1 (zs_i σ5 3 4).toNatClampNeg)] (zc_Tokens_isDigit hJ hc11) (va_cwS 1 hts (zs_gS zm_67 zm_68 zm_65 zm_66) rfl rfl rfl (by decide +kernel) ⟨Nat.le_trans (by decide) hR1, Nat.le_trans (by decide) hR2⟩) rfl hl.1 (Nat.le_of_ble_eq_true rfl) d_Tokens_addToken_72 ⟨Nat.zero_le _, Nat.zero_le _⟩) (fun H locs hw => ?_)
      refine lv_if_eq hx hb d_Tokens_addToken_75 (tgt := 96) rfl (fun hc => ?_) (fun hc => ?_)
      · have hf := (if_pos hc).symm.trans hf
        refine lv_aload_n hx hb d_Tokens_addToken_96 rfl (lv_at hl 0 rfl) ?_
        refine zr_get (ci := 1) G hw 3 0 zi_1 rfl rfl rfl (by decide) zm_83 (fun _ h => h) (v := .ref (ad 4)) rfl d_Tokens_addToken_97 ?_
        refine lv_aload_n hx hb d_Tokens_addToken_100 rfl (lv_at hl 0 rfl) ?_
        refine zr_get (ci := 1) G hw 3 3 zi_1 rfl rfl rfl (by decide) zm_70 (fun _ h => h) (v := .int (zs_i σ9 3 3)) rfl d_Tokens_addToken_101 ?_
        refine lv_aload_n hx hb d_Tokens_addToken_104 rfl (lv_at hl 0 rfl) ?_
        refine lv_aload_n hx hb d_Tokens_addToken_105 rfl (lv_at hl 1 rfl) ?_
        refine lv_iload_n hx hb d_Tokens_addToken_106 rfl (lv_at hl 2 rfl) ?_
        obtain ⟨r13, σ12, hc14, hf⟩ := zq_cs hf
        refine zr_cr hw (zr_runV (rest := [.int (zs_i σ9 3 3), .ref (ad 4)]) (ci := 1) (o := 3) G hw [.ref (ad x1), .int x2] (zc_Tokens_readSign hJ hc14) (cwV 2 hts (zs_gV zm_85 zm_86 zm_87 zm_65 zm_84) rfl rfl rfl (by decide +kernel) ⟨Nat.le_trans (by decide) hR1, Nat.le_trans (by decide) hR2⟩) rfl rfl rfl hl.1 (Nat.le_of_ble_eq_true rfl) d_Tokens_addToken_107 ⟨Nat.zero_le _, Nat.zero_le _⟩) (fun H locs hw => ?_)
        obtain ⟨hi15, hf⟩ := zq_gs hf
        obtain ⟨ht17, hf⟩ := zq_gs hf
        obtain ⟨σ16, e_σ16, hf⟩ := zq_ss hf
        refine zr_aast G hw 4 rfl rfl (zq_tn ht17) hi15 (zr_tok G hw ht17) d_Tokens_addToken_110 (fun H locs hw => ?_)
        rw [← e_σ16] at hw
        exact K111 σ16 H locs ls hf hw (lv_sub hl [0] rfl)
      · have hf := (if_neg hc).symm.trans hf
        refine lv_aload_n hx hb d_Tokens_addToken_78 rfl (lv_at hl 0 rfl) ?_
        refine zr_get (ci := 1) G hw 3 0 zi_1 rfl rfl rfl (by decide) zm_83 (fun _ h => h) (v := .ref (ad 4)) rfl d_Tokens_addToken_79 ?_
        refine lv_aload_n hx hb d_Tokens_addToken_82 rfl (lv_at hl 0 rfl) ?_
        refine zr_get (ci := 1) G hw 3 3 zi_1 rfl rfl rfl (by decide) zm_70 (fun _ h => h) (v := .int (zs_i σ9 3 3)) rfl d_Tokens_addToken_83 ?_
        refine lv_aload_n hx hb d_Tokens_addToken_86 rfl (lv_at hl 0 rfl) ?_
        refine lv_aload_n hx hb d_Tokens_addToken_87 rfl (lv_at hl 1 rfl) ?_
        refine lv_iload_n hx hb d_Tokens_addToken_88 rfl (lv_at hl 2 rfl) ?_
        obtain ⟨r19, σ18, hc20, hf⟩ := zq_cs hf
        refine zr_cr hw (zr_runV (rest := [.int (zs_i σ9 3 3), .ref (ad 4)]) (ci := 1) (o := 3) G hw [.ref (ad x1), .int x2] (zc_Tokens_readNumber hJ hc20) (cwV 2 hts (zs_gV zm_89 zm_90 zm_91 zm_65 zm_88) rfl rfl rfl (by decide +kernel) ⟨Nat.le_trans (by decide) hR1, Nat.le_trans (by decide) hR2⟩) rfl rfl rfl hl.1 (Nat.le_of_ble_eq_true rfl) d_Tokens_addToken_89 ⟨Nat.zero_le _, Nat.zero_le _⟩) (fun H locs hw => ?_)
        obtain ⟨hi21, hf⟩ := zq_gs hf
        obtain ⟨ht23, hf⟩ := zq_gs hf
        obtain ⟨σ22, e_σ22, hf⟩ := zq_ss hf
        refine zr_aast G hw 4 rfl rfl (zq_tn ht23) hi21 (zr_tok G hw ht23) d_Tokens_addToken_92 (fun H locs hw => ?_)
        rw [← e_σ22] at hw
        refine lv_goto hx hb d_Tokens_addToken_93 (tgt := 111) rfl ?_
        exact K111 σ22 H locs ls hf hw (lv_sub hl [0] rfl)
    · have hf := (if_neg hc).symm.trans hf
      refine lv_aload_n hx hb d_Tokens_addToken_48 rfl (lv_at hl 0 rfl) ?_
      refine zr_get (ci := 1) G hw 3 0 zi_1 rfl rfl rfl (by decide) zm_83 (fun _ h => h) (v := .ref (ad 4)) rfl d_Tokens_addToken_49 ?_
      refine lv_aload_n hx hb d_Tokens_addToken_52 rfl (lv_at hl 0 rfl) ?_
      refine zr_get (ci := 1) G hw 3 3 zi_1 rfl rfl rfl (by decide) zm_70 (fun _ h => h) (v := .int (zs_i σ5 3 3)) rfl d_Tokens_addToken_53 ?_
      refine lv_aload_n hx hb d_Tokens_addToken_56 rfl (lv_at hl 0 rfl) ?_
      refine lv_aload_n hx hb d_Tokens_addToken_57 rfl (lv_at hl 1 rfl) ?_
      refine lv_iload_n hx hb d_Tokens_addToken_58 rfl (lv_at hl 2 rfl) ?_
      obtain ⟨r25, σ24, hc26, hf⟩ := zq_cs hf
      refine zr_cr hw (zr_runV (rest := [.int (zs_i σ5 3 3), .ref (ad 4)]) (ci := 1) (o := 3) G hw [.ref (ad x1), .int x2] (zc_Tokens_readWord hJ hc26) (cwV 2 hts (zs_gV zm_93 zm_94 zm_95 zm_65 zm_92) rfl rfl rfl (by decide +kernel) ⟨Nat.le_trans (by decide) hR1, Nat.le_trans (by decide) hR2⟩) rfl rfl rfl hl.1 (Nat.le_of_ble_eq_true rfl) d_Tokens_addToken_59 ⟨Nat.zero_le _, Nat.zero_le _⟩) (fun H locs hw => ?_)
      obtain ⟨hi27, hf⟩ := zq_gs hf
      obtain ⟨ht29, hf⟩ := zq_gs hf
      obtain ⟨σ28, e_σ28, hf⟩ := zq_ss hf
      refine zr_aast G hw 4 rfl rfl (zq_tn ht29) hi27 (zr_tok G hw ht29) d_Tokens_addToken_62 (fun H locs hw => ?_)
      rw [← e_σ28] at hw
      refine lv_goto hx hb d_Tokens_addToken_63 (tgt := 111) rfl ?_
      exact K111 σ28 H locs ls hf hw (lv_sub hl [0] rfl)
  · have hf := (if_neg hc).symm.trans hf
    refine lv_aload_n hx hb d_Tokens_addToken_21 rfl (lv_at hl 0 rfl) ?_
    refine zr_get (ci := 1) G hw 3 0 zi_1 rfl rfl rfl (by decide) zm_83 (fun _ h => h) (v := .ref (ad 4)) rfl d_Tokens_addToken_22 ?_
    refine lv_aload_n hx hb d_Tokens_addToken_25 rfl (lv_at hl 0 rfl) ?_
    refine zr_get (ci := 1) G hw 3 3 zi_1 rfl rfl rfl (by decide) zm_70 (fun _ h => h) (v := .int (zs_i σ2 3 3)) rfl d_Tokens_addToken_26 ?_
    refine va_gets (C := "ScheduleCheck$Token") (n := "END") (d := "LScheduleCheck$Token;") (v := .ref (ad 1000)) hx hb ((G.2.2.2.1 rfl).1.1 0 (by decide)).1 hw.2.2 hown (hts _ zm_96) (fun _ h => h) d_Tokens_addToken_29 ?_
    obtain ⟨hi30, hf⟩ := zq_gs hf
    obtain ⟨σ31, e_σ31, hf⟩ := zq_ss hf
    refine zr_aast G hw 4 rfl rfl (by decide) hi30 (va_recvE (G.2.2.2.1 rfl).1 (i := 0) (by decide) hw.2.2) d_Tokens_addToken_32 (fun H locs hw => ?_)
    rw [← e_σ31] at hw
    refine lv_goto hx hb d_Tokens_addToken_33 (tgt := 111) rfl ?_
    exact K111 σ31 H locs ls hf hw (lv_sub hl [0] rfl)
/-! ScheduleCheck$Tokens.split -/
def y_Tokens_split : MethodName := ⟨"ScheduleCheck$Tokens","split","([BI)V"⟩
theorem d_Tokens_split_0 : decode prog_11_method_2_code 0 = .ok (.aload_n 0, 1) := by decide +kernel
theorem d_Tokens_split_1 : decode prog_11_method_2_code 1 = .ok (.iconst 0, 1) := by decide +kernel
theorem d_Tokens_split_2 : decode prog_11_method_2_code 2 = .ok (.putfield 25, 3) := by decide +kernel
theorem d_Tokens_split_5 : decode prog_11_method_2_code 5 = .ok (.aload_n 0, 1) := by decide +kernel
theorem d_Tokens_split_6 : decode prog_11_method_2_code 6 = .ok (.iconst 0, 1) := by decide +kernel
theorem d_Tokens_split_7 : decode prog_11_method_2_code 7 = .ok (.putfield 29, 3) := by decide +kernel
theorem d_Tokens_split_10 : decode prog_11_method_2_code 10 = .ok (.iconst 0, 1) := by decide +kernel
theorem d_Tokens_split_11 : decode prog_11_method_2_code 11 = .ok (.istore_n 3, 1) := by decide +kernel
theorem d_Tokens_split_12 : decode prog_11_method_2_code 12 = .ok (.iload_n 3, 1) := by decide +kernel
theorem d_Tokens_split_13 : decode prog_11_method_2_code 13 = .ok (.sipush 1600, 3) := by decide +kernel
theorem d_Tokens_split_16 : decode prog_11_method_2_code 16 = .ok (.if_icmp .gt 83, 3) := by decide +kernel
theorem d_Tokens_split_19 : decode prog_11_method_2_code 19 = .ok (.aload_n 0, 1) := by decide +kernel
theorem d_Tokens_split_20 : decode prog_11_method_2_code 20 = .ok (.getfield 29, 3) := by decide +kernel
theorem d_Tokens_split_23 : decode prog_11_method_2_code 23 = .ok (.iload_n 2, 1) := by decide +kernel
theorem d_Tokens_split_24 : decode prog_11_method_2_code 24 = .ok (.if_icmp .ge 38, 3) := by decide +kernel
theorem d_Tokens_split_27 : decode prog_11_method_2_code 27 = .ok (.aload_n 1, 1) := by decide +kernel
theorem d_Tokens_split_28 : decode prog_11_method_2_code 28 = .ok (.aload_n 0, 1) := by decide +kernel
theorem d_Tokens_split_29 : decode prog_11_method_2_code 29 = .ok (.getfield 29, 3) := by decide +kernel
theorem d_Tokens_split_32 : decode prog_11_method_2_code 32 = .ok (.baload, 1) := by decide +kernel
theorem d_Tokens_split_33 : decode prog_11_method_2_code 33 = .ok (.bipush 32, 2) := by decide +kernel
theorem d_Tokens_split_35 : decode prog_11_method_2_code 35 = .ok (.if_icmp .eq 14, 3) := by decide +kernel
theorem d_Tokens_split_38 : decode prog_11_method_2_code 38 = .ok (.aload_n 1, 1) := by decide +kernel
theorem d_Tokens_split_39 : decode prog_11_method_2_code 39 = .ok (.aload_n 0, 1) := by decide +kernel
theorem d_Tokens_split_40 : decode prog_11_method_2_code 40 = .ok (.getfield 29, 3) := by decide +kernel
theorem d_Tokens_split_43 : decode prog_11_method_2_code 43 = .ok (.baload, 1) := by decide +kernel
theorem d_Tokens_split_44 : decode prog_11_method_2_code 44 = .ok (.bipush 10, 2) := by decide +kernel
theorem d_Tokens_split_46 : decode prog_11_method_2_code 46 = .ok (.if_icmp .ne 16, 3) := by decide +kernel
theorem d_Tokens_split_49 : decode prog_11_method_2_code 49 = .ok (.aload_n 0, 1) := by decide +kernel
theorem d_Tokens_split_50 : decode prog_11_method_2_code 50 = .ok (.dup, 1) := by decide +kernel
theorem d_Tokens_split_51 : decode prog_11_method_2_code 51 = .ok (.getfield 29, 3) := by decide +kernel
theorem d_Tokens_split_54 : decode prog_11_method_2_code 54 = .ok (.iconst 1, 1) := by decide +kernel
theorem d_Tokens_split_55 : decode prog_11_method_2_code 55 = .ok (.iadd, 1) := by decide +kernel
theorem d_Tokens_split_56 : decode prog_11_method_2_code 56 = .ok (.putfield 29, 3) := by decide +kernel
theorem d_Tokens_split_59 : decode prog_11_method_2_code 59 = .ok (.goto (-40), 3) := by decide +kernel
theorem d_Tokens_split_62 : decode prog_11_method_2_code 62 = .ok (.aload_n 0, 1) := by decide +kernel
theorem d_Tokens_split_63 : decode prog_11_method_2_code 63 = .ok (.aload_n 1, 1) := by decide +kernel
theorem d_Tokens_split_64 : decode prog_11_method_2_code 64 = .ok (.iload_n 2, 1) := by decide +kernel
theorem d_Tokens_split_65 : decode prog_11_method_2_code 65 = .ok (.invokevirtual 32, 3) := by decide +kernel
theorem d_Tokens_split_68 : decode prog_11_method_2_code 68 = .ok (.aload_n 0, 1) := by decide +kernel
theorem d_Tokens_split_69 : decode prog_11_method_2_code 69 = .ok (.getfield 11, 3) := by decide +kernel
theorem d_Tokens_split_72 : decode prog_11_method_2_code 72 = .ok (.iload_n 3, 1) := by decide +kernel
theorem d_Tokens_split_73 : decode prog_11_method_2_code 73 = .ok (.aaload, 1) := by decide +kernel
theorem d_Tokens_split_74 : decode prog_11_method_2_code 74 = .ok (.getstatic 36, 3) := by decide +kernel
theorem d_Tokens_split_77 : decode prog_11_method_2_code 77 = .ok (.if_acmp .eq 15, 3) := by decide +kernel
theorem d_Tokens_split_80 : decode prog_11_method_2_code 80 = .ok (.aload_n 0, 1) := by decide +kernel
theorem d_Tokens_split_81 : decode prog_11_method_2_code 81 = .ok (.getfield 11, 3) := by decide +kernel
theorem d_Tokens_split_84 : decode prog_11_method_2_code 84 = .ok (.iload_n 3, 1) := by decide +kernel
theorem d_Tokens_split_85 : decode prog_11_method_2_code 85 = .ok (.aaload, 1) := by decide +kernel
theorem d_Tokens_split_86 : decode prog_11_method_2_code 86 = .ok (.getstatic 40, 3) := by decide +kernel
theorem d_Tokens_split_89 : decode prog_11_method_2_code 89 = .ok (.if_acmp .ne 4, 3) := by decide +kernel
theorem d_Tokens_split_92 : decode prog_11_method_2_code 92 = .ok (.return_, 1) := by decide +kernel
theorem d_Tokens_split_93 : decode prog_11_method_2_code 93 = .ok (.iinc 3 1, 3) := by decide +kernel
theorem d_Tokens_split_96 : decode prog_11_method_2_code 96 = .ok (.goto (-84), 3) := by decide +kernel
theorem d_Tokens_split_99 : decode prog_11_method_2_code 99 = .ok (.return_, 1) := by decide +kernel
def zf_Tokens_split_92 (F : Nat)   (σ : zs_S) : Option (zs_S) :=
  some σ
def zf_Tokens_split_62 (F : Nat) (k12 : Nat → Int32 → Int32 → zs_S → Option (zs_S)) (x1 : Nat) (x2 : Int32) (x3 : Int32) (σ : zs_S) : Option (zs_S) :=
  zq_d (zf_Tokens_addToken F x1 x2 σ) fun σ7 =>
  zq_g (zq_b x3 1601) <|
  zq_q (zs_r σ7 4 (x3).toNatClampNeg) fun q11 =>
  zq_g (decide (q11 < 1200)) <|
  if q11 = 1000 then (
    zf_Tokens_split_92 F σ7
  ) else (
    zq_g (zq_b x3 1601) <|
    zq_q (zs_r σ7 4 (x3).toNatClampNeg) fun q14 =>
    zq_g (decide (q14 < 1200)) <|
    if q14 = 1001 then (
      zf_Tokens_split_92 F σ7
    ) else (
      zq_v (x3 + 1) fun v16 =>
      k12 x1 x2 v16 σ7
    )
  )
def zf_Tokens_split_49 (F : Nat) (k12 : Nat → Int32 → Int32 → zs_S → Option (zs_S)) (k19 : Nat → Int32 → Int32 → zs_S → Option (zs_S)) (x1 : Nat) (x2 : Int32) (x3 : Int32) (σ : zs_S) : Option (zs_S) :=
  zq_v (zs_wi σ 3 4 ((zs_i σ 3 4) + 1)) fun σ6 =>
  k19 x1 x2 x3 σ6
def zf_Tokens_split_19 (F : Nat) (k12 : Nat → Int32 → Int32 → zs_S → Option (zs_S)) : Nat → Nat → Int32 → Int32 → zs_S → Option (zs_S)
  | 0, _, _, _, _ => none
  | n + 1, x1, x2, x3, σ =>
    if x2 ≤ (zs_i σ 3 4) then (
      zf_Tokens_split_62 F k12 x1 x2 x3 σ
    ) else (
      zq_g (zq_k 0 x1 1) <|
      zq_g (zq_b (zs_i σ 3 4) (zd_sh 0 x1).2) <|
      if (zs_i σ x1 (zs_i σ 3 4).toNatClampNeg) = 32 then (
        zf_Tokens_split_49 F k12 (zf_Tokens_split_19 F k12 n) x1 x2 x3 σ
      ) else (
        zq_g (zq_b (zs_i σ 3 4) (zd_sh 0 x1).2) <|
        if (zs_i σ x1 (zs_i σ 3 4).toNatClampNeg) = 10 then (
          zf_Tokens_split_49 F k12 (zf_Tokens_split_19 F k12 n) x1 x2 x3 σ
        ) else (
          zf_Tokens_split_62 F k12 x1 x2 x3 σ
        )
      )
    )
def zf_Tokens_split_12 (F : Nat)  : Nat → Nat → Int32 → Int32 → zs_S → Option (zs_S)
  | 0, _, _, _, _ => none
  | n + 1, x1, x2, x3, σ =>
    if 1600 < x3 then (
      some σ
    ) else (
      zf_Tokens_split_19 F (zf_Tokens_split_12 F n) F x1 x2 x3 σ
    )
def zf_Tokens_split (F : Nat) (x1 : Nat) (x2 : Int32) (σ : zs_S) : Option (zs_S) :=
  zq_v (zs_wi σ 3 3 0) fun σ1 =>
  zq_v (zs_wi σ1 3 4 0) fun σ2 =>
  zf_Tokens_split_12 F F x1 x2 0 σ2
set_option maxHeartbeats 4000000 in
set_option maxRecDepth 100000 in
theorem zc_Tokens_split {l : Launch} {D : va_G} {cA : Nat → ClassId} {ad : Nat → Nat} {A : Nat → Prop} {F : Nat} {x1 : Nat} {x2 : Int32} {σ : zs_S} {q : zs_S} (hJ : zs_J ad) (hf : zf_Tokens_split F x1 x2 σ = some q) : Met l y_Tokens_split (.code y_Tokens_split prog_11_method_2_code 4 none :: zd_ww) { frames := 3, cells := 0, slots := 0, locals := 105 } (va_Pc [.ref (ad 3), .ref (ad x1), .int x2] (zs_U 0 D cA ad A σ)) (zs_Qv 0 D cA ad A q) 0 0 A := by
  refine Met.ofW (cc := prog_11_method_2_code) (maxL := 4) (ret := none) (by decide) rfl ?_
  intro p e s m args below meth c s₁ B hml hv
  obtain ⟨hargs, hP, hK, hD, hZ⟩ := hv
  have G : zs_G 0 p s m args c prog_11_method_2_code 4 "ScheduleCheck$Tokens" D cA ad A := ⟨⟨B.exec, B.bytes, hml, findClass_of_methodNamed B.named, fun w h => atoms_spec B.pre w (List.mem_cons_of_mem _ h)⟩, hK, hJ, hZ⟩
  have hw : zs_I 0 D cA ad A s σ s.heap [] := ⟨hP, hD, va_S.rf⟩
  have hx := G.1.1
  have hb := G.1.2.1
  have hown := G.1.2.2.2.1
  have hts := G.1.2.2.2.2
  have hr := B.returns
  have hlocks := B.notSynchronized
  have he : entryFrame m args 4 = F0 m 0 ((lg_sl [.ref (ad 3), .ref (ad x1), .int x2] ++ List.replicate (4 - (lg_sl [.ref (ad 3), .ref (ad x1), .int x2]).length) Slot.unset).toArray) [] := by rw [hargs]; exact lg_entry_eq m _ 4
  have hl := lv_entry [.ref (ad 3), .ref (ad x1), .int x2] (n := 4) (Nat.le_of_ble_eq_true rfl)
  rw [he]
  generalize (lg_sl [.ref (ad 3), .ref (ad x1), .int x2] ++ List.replicate (4 - (lg_sl [.ref (ad 3), .ref (ad x1), .int x2]).length) Slot.unset).toArray = ls at hl
  have hl : lv_has ls 4 [(0, .ref (ad 3)), (1, .ref (ad x1)), (2, .int x2)] := hl
  obtain ⟨RR, hR⟩ : ∃ z, z = (headSpec (.code y_Tokens_split prog_11_method_2_code 4 none :: zd_ww) { frames := 3, cells := 0, slots := 0, locals := 105 }).room := ⟨_, rfl⟩
  rw [← hR]
  obtain ⟨QQ, hQ⟩ : ∃ z, z = MQ below (zs_Qv 0 D cA ad A q) args s 0 0 A := ⟨_, rfl⟩
  rw [← hQ]
  have hR1 : 3 ≤ RR.frames := by rw [hR]; exact Nat.le_refl _
  have hR2 : 105 ≤ RR.locals := by rw [hR]; exact Nat.le_refl _
  generalize s.heap = H at hw ⊢
  generalize ([] : List Loc) = locs at hw ⊢
  have K92 : ∀ (σ : zs_S) (H : Heap) (locs : List Loc) (ls : Array Slot), zf_Tokens_split_92 F σ = some q → zs_I 0 D cA ad A s σ H locs → lv_has ls 4 [] → W p l e RR s m args below meth c H locs 0 0 QQ (F0 m 92 ls []) := by
    intro   σ H locs ls hf hw hl
    unfold zf_Tokens_split_92 at hf
    exact zr_vret G hw hr hlocks hf hQ d_Tokens_split_92
  have K62 : ∀ (k12 : Nat → Int32 → Int32 → zs_S → Option (zs_S)) (hk12 : ∀ (x1 : Nat) (x2 : Int32) (x3 : Int32) (σ : zs_S) (H : Heap) (locs : List Loc) (ls : Array Slot), k12 x1 x2 x3 σ = some q → zs_I 0 D cA ad A s σ H locs → lv_has ls 4 [(0, .ref (ad 3)), (1, .ref (ad x1)), (2, .int x2), (3, .int x3)] → W p l e RR s m args below meth c H locs 0 0 QQ (F0 m 12 ls [])) (x1 : Nat) (x2 : Int32) (x3 : Int32) (σ : zs_S) (H : Heap) (locs : List Loc) (ls : Array Slot), zf_Tokens_split_62 F k12 x1 x2 x3 σ = some q → zs_I 0 D cA ad A s σ H locs → lv_has ls 4 [(0, .ref (ad 3)), (1, .ref (ad x1)), (2, .int x2), (3, .int x3)] → W p l e RR s m args below meth c H locs 0 0 QQ (F0 m 62 ls []) := by
    intro k12 hk12 x1 x2 x3 σ H locs ls hf hw hl
    unfold zf_Tokens_split_62 at hf
    refine lv_aload_n hx hb d_Tokens_split_62 rfl (lv_at hl 0 rfl) ?_
    refine lv_aload_n hx hb d_Tokens_split_63 rfl (lv_at hl 1 rfl) ?_
    refine lv_iload_n hx hb d_Tokens_split_64 rfl (lv_at hl 2 rfl) ?_
    obtain ⟨σ7, hc9, hf⟩ := zq_ds hf
    refine zr_cv hw (zr_runV (rest := []) (ci := 1) (o := 3) G hw [.ref (ad x1), .int x2] (zc_Tokens_addToken hJ hc9) (cwV 2 hts (zs_gV zm_98 zm_99 zm_100 zm_65 zm_97) rfl rfl rfl (by decide +kernel) ⟨Nat.le_trans (by decide) hR1, Nat.le_trans (by decide) hR2⟩) rfl rfl rfl hl.1 (Nat.le_of_ble_eq_true rfl) d_Tokens_split_65 ⟨Nat.zero_le _, Nat.zero_le _⟩) (fun H locs hw => ?_)
    refine lv_aload_n hx hb d_Tokens_split_68 rfl (lv_at hl 0 rfl) ?_
    refine zr_get (ci := 1) G hw 3 0 zi_1 rfl rfl rfl (by decide) zm_83 (fun _ h => h) (v := .ref (ad 4)) rfl d_Tokens_split_69 ?_
    refine lv_iload_n hx hb d_Tokens_split_72 rfl (lv_at hl 3 rfl) ?_
    obtain ⟨hi10, hf⟩ := zq_gs hf
    obtain ⟨q11, e_q11, h_q11, hf⟩ := zq_qs hf
    refine zr_aald G hw 4 rfl rfl hi10 (by rw [← e_q11]; exact h_q11) d_Tokens_split_73 ?_
    rw [← e_q11]
    refine va_gets (C := "ScheduleCheck$Token") (n := "END") (d := "LScheduleCheck$Token;") (v := .ref (ad 1000)) hx hb ((G.2.2.2.1 rfl).1.1 0 (by decide)).1 hw.2.2 hown (hts _ zm_96) (fun _ h => h) d_Tokens_split_74 ?_
    obtain ⟨hm12, hf⟩ := zq_gs hf
    refine zr_aeq G (of_decide_eq_true hm12) (by decide) d_Tokens_split_77 (tgt := 92) rfl (fun hc => ?_) (fun hc => ?_)
    · have hf := (if_pos hc).symm.trans hf
      exact K92 σ7 H locs ls hf hw (lv_sub hl [] rfl)
    · have hf := (if_neg hc).symm.trans hf
      refine lv_aload_n hx hb d_Tokens_split_80 rfl (lv_at hl 0 rfl) ?_
      refine zr_get (ci := 1) G hw 3 0 zi_1 rfl rfl rfl (by decide) zm_83 (fun _ h => h) (v := .ref (ad 4)) rfl d_Tokens_split_81 ?_
      refine lv_iload_n hx hb d_Tokens_split_84 rfl (lv_at hl 3 rfl) ?_
      obtain ⟨hi13, hf⟩ := zq_gs hf
      obtain ⟨q14, e_q14, h_q14, hf⟩ := zq_qs hf
      refine zr_aald G hw 4 rfl rfl hi13 (by rw [← e_q14]; exact h_q14) d_Tokens_split_85 ?_
      rw [← e_q14]
      refine va_gets (C := "ScheduleCheck$Token") (n := "BAD") (d := "LScheduleCheck$Token;") (v := .ref (ad 1001)) hx hb ((G.2.2.2.1 rfl).1.1 1 (by decide)).1 hw.2.2 hown (hts _ zm_75) (fun _ h => h) d_Tokens_split_86 ?_
      obtain ⟨hm15, hf⟩ := zq_gs hf
      refine zr_ane G (of_decide_eq_true hm15) (by decide) d_Tokens_split_89 (tgt := 93) rfl (fun hc => ?_) (fun hc => ?_)
      · have hf := (if_neg hc).symm.trans hf
        obtain ⟨v16, e_v16, hf⟩ := zq_ss hf
        refine lv_iinc (v := v16) hx hb d_Tokens_split_93 hl (k := 3) rfl (zq_inc (k := 1) (by decide) e_v16) (by decide) rfl (fun ls hl => ?_)
        have hl : lv_has ls 4 [(3, .int v16), (0, .ref (ad 3)), (1, .ref (ad x1)), (2, .int x2)] := hl
        refine lv_goto hx hb d_Tokens_split_96 (tgt := 12) rfl ?_
        exact hk12 x1 x2 v16 σ7 H locs ls hf hw (lv_sub hl [1, 2, 3, 0] rfl)
      · have hf := (if_pos hc).symm.trans hf
        exact K92 σ7 H locs ls hf hw (lv_sub hl [] rfl)
  have K49 : ∀ (k12 : Nat → Int32 → Int32 → zs_S → Option (zs_S)) (hk12 : ∀ (x1 : Nat) (x2 : Int32) (x3 : Int32) (σ : zs_S) (H : Heap) (locs : List Loc) (ls : Array Slot), k12 x1 x2 x3 σ = some q → zs_I 0 D cA ad A s σ H locs → lv_has ls 4 [(0, .ref (ad 3)), (1, .ref (ad x1)), (2, .int x2), (3, .int x3)] → W p l e RR s m args below meth c H locs 0 0 QQ (F0 m 12 ls [])) (k19 : Nat → Int32 → Int32 → zs_S → Option (zs_S)) (hk19 : ∀ (x1 : Nat) (x2 : Int32) (x3 : Int32) (σ : zs_S) (H : Heap) (locs : List Loc) (ls : Array Slot), k19 x1 x2 x3 σ = some q → zs_I 0 D cA ad A s σ H locs → lv_has ls 4 [(0, .ref (ad 3)), (1, .ref (ad x1)), (2, .int x2), (3, .int x3)] → W p l e RR s m args below meth c H locs 0 0 QQ (F0 m 19 ls [])) (x1 : Nat) (x2 : Int32) (x3 : Int32) (σ : zs_S) (H : Heap) (locs : List Loc) (ls : Array Slot), zf_Tokens_split_49 F k12 k19 x1 x2 x3 σ = some q → zs_I 0 D cA ad A s σ H locs → lv_has ls 4 [(0, .ref (ad 3)), (1, .ref (ad x1)), (2, .int x2), (3, .int x3)] → W p l e RR s m args below meth c H locs 0 0 QQ (F0 m 49 ls []) := by
    intro k12 hk12 k19 hk19 x1 x2 x3 σ H locs ls hf hw hl
    unfold zf_Tokens_split_49 at hf
    refine lv_aload_n hx hb d_Tokens_split_49 rfl (lv_at hl 0 rfl) ?_
    refine lv_dup hx hb d_Tokens_split_50 rfl ?_
    refine zr_get (ci := 1) G hw 3 4 zi_1 rfl rfl rfl (by decide) zm_61 (fun _ h => h) (v := .int (zs_i σ 3 4)) rfl d_Tokens_split_51 ?_
    refine lv_iconst (v := 1) hx hb d_Tokens_split_54 (by decide) ?_
    refine lv_iadd hx hb d_Tokens_split_55 ?_
    obtain ⟨σ6, e_σ6, hf⟩ := zq_ss hf
    refine zr_puti (ci := 1) G hw 3 4 zi_1 t_zd1 t_zd1_ok n_zd1 rfl rfl rfl (by decide) rfl zm_61 (fun _ h => h) rfl (x := ((zs_i σ 3 4) + 1)) (t_zd1_ok 4 (by decide)) rfl rfl d_Tokens_split_56 (fun H locs hw => ?_)
    rw [← e_σ6] at hw
    refine lv_goto hx hb d_Tokens_split_59 (tgt := 19) rfl ?_
    exact hk19 x1 x2 x3 σ6 H locs ls hf hw (lv_sub hl [0, 1, 2, 3] rfl)
  have K19 : ∀ (k12 : Nat → Int32 → Int32 → zs_S → Option (zs_S)) (hk12 : ∀ (x1 : Nat) (x2 : Int32) (x3 : Int32) (σ : zs_S) (H : Heap) (locs : List Loc) (ls : Array Slot), k12 x1 x2 x3 σ = some q → zs_I 0 D cA ad A s σ H locs → lv_has ls 4 [(0, .ref (ad 3)), (1, .ref (ad x1)), (2, .int x2), (3, .int x3)] → W p l e RR s m args below meth c H locs 0 0 QQ (F0 m 12 ls [])) (n : Nat) (x1 : Nat) (x2 : Int32) (x3 : Int32) (σ : zs_S) (H : Heap) (locs : List Loc) (ls : Array Slot), zf_Tokens_split_19 F k12 n x1 x2 x3 σ = some q → zs_I 0 D cA ad A s σ H locs → lv_has ls 4 [(0, .ref (ad 3)), (1, .ref (ad x1)), (2, .int x2), (3, .int x3)] → W p l e RR s m args below meth c H locs 0 0 QQ (F0 m 19 ls []) := by
    intro k12 hk12 n
    induction n with
    | zero => intro x1 x2 x3 σ H locs ls hf hw hl; exact nomatch (show (none : Option (zs_S)) = some q from hf)
    | succ n ih =>
      intro x1 x2 x3 σ H locs ls hf hw hl
      rw [zf_Tokens_split_19] at hf
      refine lv_aload_n hx hb d_Tokens_split_19 rfl (lv_at hl 0 rfl) ?_
      refine zr_get (ci := 1) G hw 3 4 zi_1 rfl rfl rfl (by decide) zm_61 (fun _ h => h) (v := .int (zs_i σ 3 4)) rfl d_Tokens_split_20 ?_
      refine lv_iload_n hx hb d_Tokens_split_23 rfl (lv_at hl 2 rfl) ?_
      refine lv_icmp_ge hx hb d_Tokens_split_24 (tgt := 62) rfl (fun hc => ?_) (fun hc => ?_)
      · have hf := (if_pos hc).symm.trans hf
        exact K62 k12 hk12 x1 x2 x3 σ H locs ls hf hw (lv_sub hl [0, 1, 2, 3] rfl)
      · have hf := (if_neg hc).symm.trans hf
        refine lv_aload_n hx hb d_Tokens_split_27 rfl (lv_at hl 1 rfl) ?_
        refine lv_aload_n hx hb d_Tokens_split_28 rfl (lv_at hl 0 rfl) ?_
        refine zr_get (ci := 1) G hw 3 4 zi_1 rfl rfl rfl (by decide) zm_61 (fun _ h => h) (v := .int (zs_i σ 3 4)) rfl d_Tokens_split_29 ?_
        obtain ⟨hs3, hf⟩ := zq_gs hf
        have hs3 := zq_ks hs3
        obtain ⟨hi4, hf⟩ := zq_gs hf
        refine zr_bald G hw x1 hs3 rfl hi4 d_Tokens_split_32 ?_
        refine lv_bipush (v := 32) hx hb d_Tokens_split_33 (by decide) ?_
        refine lv_icmp_eq hx hb d_Tokens_split_35 (tgt := 49) rfl (fun hc => ?_) (fun hc => ?_)
        · have hf := (if_pos hc).symm.trans hf
          exact K49 k12 hk12 (zf_Tokens_split_19 F k12 n) ih x1 x2 x3 σ H locs ls hf hw (lv_sub hl [0, 1, 2, 3] rfl)
        · have hf := (if_neg hc).symm.trans hf
          refine lv_aload_n hx hb d_Tokens_split_38 rfl (lv_at hl 1 rfl) ?_
          refine lv_aload_n hx hb d_Tokens_split_39 rfl (lv_at hl 0 rfl) ?_
          refine zr_get (ci := 1) G hw 3 4 zi_1 rfl rfl rfl (by decide) zm_61 (fun _ h => h) (v := .int (zs_i σ 3 4)) rfl d_Tokens_split_40 ?_
          obtain ⟨hi5, hf⟩ := zq_gs hf
          refine zr_bald G hw x1 hs3 rfl hi5 d_Tokens_split_43 ?_
          refine lv_bipush (v := 10) hx hb d_Tokens_split_44 (by decide) ?_
          refine lv_icmp_ne hx hb d_Tokens_split_46 (tgt := 62) rfl (fun hc => ?_) (fun hc => ?_)
          · have hf := (if_neg hc).symm.trans hf
            exact K62 k12 hk12 x1 x2 x3 σ H locs ls hf hw (lv_sub hl [0, 1, 2, 3] rfl)
          · have hf := (if_pos hc).symm.trans hf
            exact K49 k12 hk12 (zf_Tokens_split_19 F k12 n) ih x1 x2 x3 σ H locs ls hf hw (lv_sub hl [0, 1, 2, 3] rfl)
  have K12 : ∀ (n : Nat) (x1 : Nat) (x2 : Int32) (x3 : Int32) (σ : zs_S) (H : Heap) (locs : List Loc) (ls : Array Slot), zf_Tokens_split_12 F n x1 x2 x3 σ = some q → zs_I 0 D cA ad A s σ H locs → lv_has ls 4 [(0, .ref (ad 3)), (1, .ref (ad x1)), (2, .int x2), (3, .int x3)] → W p l e RR s m args below meth c H locs 0 0 QQ (F0 m 12 ls []) := by
    intro  n
    induction n with
    | zero => intro x1 x2 x3 σ H locs ls hf hw hl; exact nomatch (show (none : Option (zs_S)) = some q from hf)
    | succ n ih =>
      intro x1 x2 x3 σ H locs ls hf hw hl
      rw [zf_Tokens_split_12] at hf
      refine lv_iload_n hx hb d_Tokens_split_12 rfl (lv_at hl 3 rfl) ?_
      refine lv_sipush (v := 1600) hx hb d_Tokens_split_13 (by decide) ?_
      refine lv_icmp_gt hx hb d_Tokens_split_16 (tgt := 99) rfl (fun hc => ?_) (fun hc => ?_)
      · have hf := (if_pos hc).symm.trans hf
        exact zr_vret G hw hr hlocks hf hQ d_Tokens_split_99
      · have hf := (if_neg hc).symm.trans hf
        exact K19 (zf_Tokens_split_12 F n) ih F x1 x2 x3 σ H locs ls hf hw (lv_sub hl [0, 1, 2, 3] rfl)
  unfold zf_Tokens_split at hf
  refine lv_aload_n hx hb d_Tokens_split_0 rfl (lv_at hl 0 rfl) ?_
  refine lv_iconst (v := 0) hx hb d_Tokens_split_1 (by decide) ?_
  obtain ⟨σ1, e_σ1, hf⟩ := zq_ss hf
  refine zr_puti (ci := 1) G hw 3 3 zi_1 t_zd1 t_zd1_ok n_zd1 rfl rfl rfl (by decide) rfl zm_70 (fun _ h => h) rfl (x := 0) (t_zd1_ok 3 (by decide)) rfl rfl d_Tokens_split_2 (fun H locs hw => ?_)
  rw [← e_σ1] at hw
  refine lv_aload_n hx hb d_Tokens_split_5 rfl (lv_at hl 0 rfl) ?_
  refine lv_iconst (v := 0) hx hb d_Tokens_split_6 (by decide) ?_
  obtain ⟨σ2, e_σ2, hf⟩ := zq_ss hf
  refine zr_puti (ci := 1) G hw 3 4 zi_1 t_zd1 t_zd1_ok n_zd1 rfl rfl rfl (by decide) rfl zm_61 (fun _ h => h) rfl (x := 0) (t_zd1_ok 4 (by decide)) rfl rfl d_Tokens_split_7 (fun H locs hw => ?_)
  rw [← e_σ2] at hw
  refine lv_iconst (v := 0) hx hb d_Tokens_split_10 (by decide) ?_
  refine lv_istore_n hx hb d_Tokens_split_11 rfl hl (by decide) rfl (fun ls hl => ?_)
  have hl : lv_has ls 4 [(3, .int 0), (0, .ref (ad 3)), (1, .ref (ad x1)), (2, .int x2)] := hl
  exact K12 F x1 x2 0 σ2 H locs ls hf hw (lv_sub hl [1, 2, 3, 0] rfl)
