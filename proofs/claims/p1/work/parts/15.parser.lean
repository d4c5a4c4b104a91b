theorem zm_258 : Cond.fieldLink "ScheduleCheck$Parser" 46 "ScheduleCheck$Parser" "fault" "I" ∈ zd_ww := zd_me 75 (by decide +kernel) (by decide +kernel)
theorem zm_259 : Cond.fieldLink "ScheduleCheck$Parser" 19 "ScheduleCheck$Parser" "tokens" "LScheduleCheck$Tokens;" ∈ zd_ww := zd_me 71 (by decide +kernel) (by decide +kernel)
theorem zm_260 : Cond.fieldLink "ScheduleCheck$Parser" 72 "ScheduleCheck$Tokens" "starts" "[I" ∈ zd_ww := zd_me 42 (by decide +kernel) (by decide +kernel)
theorem zm_261 : Cond.fieldLink "ScheduleCheck$Parser" 23 "ScheduleCheck$Parser" "at" "I" ∈ zd_ww := zd_me 72 (by decide +kernel) (by decide +kernel)
theorem zm_262 : Cond.fieldLink "ScheduleCheck$Parser" 75 "ScheduleCheck$Token" "BAD" "LScheduleCheck$Token;" ∈ zd_ww := zd_me 421 (by decide +kernel) (by decide +kernel)
theorem zm_263 : Cond.fieldLink "ScheduleCheck$Parser" 33 "ScheduleCheck$Parser" "token" "LScheduleCheck$Token;" ∈ zd_ww := zd_me 73 (by decide +kernel) (by decide +kernel)
theorem zm_264 : Cond.fieldLink "ScheduleCheck$Parser" 27 "ScheduleCheck$Tokens" "kinds" "[LScheduleCheck$Token;" ∈ zd_ww := zd_me 40 (by decide +kernel) (by decide +kernel)
theorem zm_265 : Cond.code ⟨"ScheduleCheck$Parser","fail","()V"⟩ prog_6_method_3_code 1 none ∈ zd_ww := zd_me 420 (by decide +kernel) (by decide +kernel)
theorem zm_266 : Cond.methodLink "ScheduleCheck$Parser" 66 ⟨"ScheduleCheck$Parser","fail","()V"⟩ ∈ zd_ww := zd_me 417 (by decide +kernel) (by decide +kernel)
theorem zm_267 : Cond.instanceMethod ⟨"ScheduleCheck$Parser","fail","()V"⟩ ∈ zd_ww := zd_me 419 (by decide +kernel) (by decide +kernel)
theorem zm_268 : Cond.selects "ScheduleCheck$Parser" ⟨"ScheduleCheck$Parser","fail","()V"⟩ ⟨"ScheduleCheck$Parser","fail","()V"⟩ ∈ zd_ww := zd_ms 10 (by decide +kernel) (by decide +kernel)
theorem zm_269 : Cond.initialized "ScheduleCheck$Parser" ∈ zd_ww := zd_me 3 (by decide +kernel) (by decide +kernel)
theorem zm_270 : Cond.code ⟨"ScheduleCheck$Parser","advance","()V"⟩ prog_6_method_4_code 1 none ∈ zd_ww := zd_me 407 (by decide +kernel) (by decide +kernel)
theorem zm_271 : Cond.methodLink "ScheduleCheck$Parser" 78 ⟨"ScheduleCheck$Parser","advance","()V"⟩ ∈ zd_ww := zd_me 404 (by decide +kernel) (by decide +kernel)
theorem zm_272 : Cond.instanceMethod ⟨"ScheduleCheck$Parser","advance","()V"⟩ ∈ zd_ww := zd_me 406 (by decide +kernel) (by decide +kernel)
theorem zm_273 : Cond.selects "ScheduleCheck$Parser" ⟨"ScheduleCheck$Parser","advance","()V"⟩ ⟨"ScheduleCheck$Parser","advance","()V"⟩ ∈ zd_ww := zd_ms 7 (by decide +kernel) (by decide +kernel)
theorem zm_274 : Cond.fieldLink "ScheduleCheck$Parser" 81 "ScheduleCheck$Parser" "known" "I" ∈ zd_ww := zd_me 69 (by decide +kernel) (by decide +kernel)
theorem zm_275 : Cond.fieldLink "ScheduleCheck$Parser" 135 "ScheduleCheck$Token" "NAME" "LScheduleCheck$Token;" ∈ zd_ww := zd_me 412 (by decide +kernel) (by decide +kernel)
theorem zm_276 : Cond.fieldLink "ScheduleCheck$Parser" 9 "ScheduleCheck$Parser" "names" "[J" ∈ zd_ww := zd_me 67 (by decide +kernel) (by decide +kernel)
theorem zm_277 : Cond.fieldLink "ScheduleCheck$Parser" 126 "ScheduleCheck$Tokens" "contents" "[J" ∈ zd_ww := zd_me 44 (by decide +kernel) (by decide +kernel)
theorem zm_278 : Cond.fieldLink "ScheduleCheck$Parser" 15 "ScheduleCheck$Parser" "cells" "[I" ∈ zd_ww := zd_me 68 (by decide +kernel) (by decide +kernel)
theorem zm_279 : Cond.code ⟨"ScheduleCheck$Parser","find","(I)I"⟩ prog_6_method_11_code 3 (Option.some FieldType.int) ∈ zd_ww := zd_me 416 (by decide +kernel) (by decide +kernel)
theorem zm_280 : Cond.methodLink "ScheduleCheck$Parser" 138 ⟨"ScheduleCheck$Parser","find","(I)I"⟩ ∈ zd_ww := zd_me 413 (by decide +kernel) (by decide +kernel)
theorem zm_281 : Cond.instanceMethod ⟨"ScheduleCheck$Parser","find","(I)I"⟩ ∈ zd_ww := zd_me 415 (by decide +kernel) (by decide +kernel)
theorem zm_282 : Cond.selects "ScheduleCheck$Parser" ⟨"ScheduleCheck$Parser","find","(I)I"⟩ ⟨"ScheduleCheck$Parser","find","(I)I"⟩ ∈ zd_ww := zd_ms 9 (by decide +kernel) (by decide +kernel)
theorem zm_283 : Cond.fieldLink "ScheduleCheck$Parser" 120 "ScheduleCheck$Token" "GETS" "LScheduleCheck$Token;" ∈ zd_ww := zd_me 426 (by decide +kernel) (by decide +kernel)
theorem zm_284 : Cond.fieldLink "ScheduleCheck$Parser" 123 "ScheduleCheck$Token" "MINUS" "LScheduleCheck$Token;" ∈ zd_ww := zd_me 428 (by decide +kernel) (by decide +kernel)
theorem zm_285 : Cond.fieldLink "ScheduleCheck$Parser" 129 "ScheduleCheck$Token" "NUMBER" "LScheduleCheck$Token;" ∈ zd_ww := zd_me 430 (by decide +kernel) (by decide +kernel)
theorem zm_286 : Cond.code ⟨"ScheduleCheck$Parser","expect","(LScheduleCheck$Token;)V"⟩ prog_6_method_5_code 2 none ∈ zd_ww := zd_me 434 (by decide +kernel) (by decide +kernel)
theorem zm_287 : Cond.methodLink "ScheduleCheck$Parser" 116 ⟨"ScheduleCheck$Parser","expect","(LScheduleCheck$Token;)V"⟩ ∈ zd_ww := zd_me 431 (by decide +kernel) (by decide +kernel)
theorem zm_288 : Cond.instanceMethod ⟨"ScheduleCheck$Parser","expect","(LScheduleCheck$Token;)V"⟩ ∈ zd_ww := zd_me 433 (by decide +kernel) (by decide +kernel)
theorem zm_289 : Cond.selects "ScheduleCheck$Parser" ⟨"ScheduleCheck$Parser","expect","(LScheduleCheck$Token;)V"⟩ ⟨"ScheduleCheck$Parser","expect","(LScheduleCheck$Token;)V"⟩ ∈ zd_ww := zd_ms 12 (by decide +kernel) (by decide +kernel)
theorem zm_290 : Cond.fieldLink "ScheduleCheck$Parser" 37 "ScheduleCheck$Parser" "program" "LScheduleCheck$Program;" ∈ zd_ww := zd_me 74 (by decide +kernel) (by decide +kernel)
theorem zm_291 : Cond.fieldLink "ScheduleCheck$Parser" 99 "ScheduleCheck$Program" "variables" "I" ∈ zd_ww := zd_me 241 (by decide +kernel) (by decide +kernel)
theorem zm_292 : Cond.code ⟨"ScheduleCheck$Parser","declare","(ZII)Z"⟩ prog_6_method_10_code 4 (Option.some FieldType.boolean) ∈ zd_ww := zd_me 411 (by decide +kernel) (by decide +kernel)
theorem zm_293 : Cond.methodLink "ScheduleCheck$Parser" 102 ⟨"ScheduleCheck$Parser","declare","(ZII)Z"⟩ ∈ zd_ww := zd_me 408 (by decide +kernel) (by decide +kernel)
theorem zm_294 : Cond.instanceMethod ⟨"ScheduleCheck$Parser","declare","(ZII)Z"⟩ ∈ zd_ww := zd_me 410 (by decide +kernel) (by decide +kernel)
theorem zm_295 : Cond.selects "ScheduleCheck$Parser" ⟨"ScheduleCheck$Parser","declare","(ZII)Z"⟩ ⟨"ScheduleCheck$Parser","declare","(ZII)Z"⟩ ∈ zd_ww := zd_ms 8 (by decide +kernel) (by decide +kernel)
theorem zm_296 : Cond.fieldLink "ScheduleCheck$Parser" 106 "ScheduleCheck$Program" "firstValues" "[I" ∈ zd_ww := zd_me 254 (by decide +kernel) (by decide +kernel)
theorem zm_297 : Cond.code ⟨"ScheduleCheck$Parser","readFirstValue","()I"⟩ prog_6_method_8_code 3 (Option.some FieldType.int) ∈ zd_ww := zd_me 425 (by decide +kernel) (by decide +kernel)
theorem zm_298 : Cond.methodLink "ScheduleCheck$Parser" 109 ⟨"ScheduleCheck$Parser","readFirstValue","()I"⟩ ∈ zd_ww := zd_me 422 (by decide +kernel) (by decide +kernel)
theorem zm_299 : Cond.instanceMethod ⟨"ScheduleCheck$Parser","readFirstValue","()I"⟩ ∈ zd_ww := zd_me 424 (by decide +kernel) (by decide +kernel)
theorem zm_300 : Cond.selects "ScheduleCheck$Parser" ⟨"ScheduleCheck$Parser","readFirstValue","()I"⟩ ⟨"ScheduleCheck$Parser","readFirstValue","()I"⟩ ∈ zd_ww := zd_ms 11 (by decide +kernel) (by decide +kernel)
theorem zm_301 : Cond.fieldLink "ScheduleCheck$Parser" 113 "ScheduleCheck$Token" "SEMICOLON" "LScheduleCheck$Token;" ∈ zd_ww := zd_me 435 (by decide +kernel) (by decide +kernel)
theorem zm_302 : Cond.fieldLink "ScheduleCheck$Parser" 132 "ScheduleCheck$Program" "locks" "I" ∈ zd_ww := zd_me 244 (by decide +kernel) (by decide +kernel)
theorem zm_303 : Cond.fieldLink "ScheduleCheck$Parser" 96 "ScheduleCheck$Parser" "shared" "I" ∈ zd_ww := zd_me 70 (by decide +kernel) (by decide +kernel)
theorem zm_304 : Cond.fieldLink "ScheduleCheck$Parser" 84 "ScheduleCheck$Token" "VAR" "LScheduleCheck$Token;" ∈ zd_ww := zd_me 398 (by decide +kernel) (by decide +kernel)
theorem zm_305 : Cond.fieldLink "ScheduleCheck$Parser" 90 "ScheduleCheck$Token" "LOCK" "LScheduleCheck$Token;" ∈ zd_ww := zd_me 437 (by decide +kernel) (by decide +kernel)
theorem zm_306 : Cond.code ⟨"ScheduleCheck$Parser","readLock","()V"⟩ prog_6_method_9_code 2 none ∈ zd_ww := zd_me 442 (by decide +kernel) (by decide +kernel)
theorem zm_307 : Cond.methodLink "ScheduleCheck$Parser" 93 ⟨"ScheduleCheck$Parser","readLock","()V"⟩ ∈ zd_ww := zd_me 439 (by decide +kernel) (by decide +kernel)
theorem zm_308 : Cond.instanceMethod ⟨"ScheduleCheck$Parser","readLock","()V"⟩ ∈ zd_ww := zd_me 441 (by decide +kernel) (by decide +kernel)
theorem zm_309 : Cond.selects "ScheduleCheck$Parser" ⟨"ScheduleCheck$Parser","readLock","()V"⟩ ⟨"ScheduleCheck$Parser","readLock","()V"⟩ ∈ zd_ww := zd_ms 13 (by decide +kernel) (by decide +kernel)
theorem zm_310 : Cond.code ⟨"ScheduleCheck$Parser","readVariable","()V"⟩ prog_6_method_7_code 2 none ∈ zd_ww := zd_me 403 (by decide +kernel) (by decide +kernel)
theorem zm_311 : Cond.methodLink "ScheduleCheck$Parser" 87 ⟨"ScheduleCheck$Parser","readVariable","()V"⟩ ∈ zd_ww := zd_me 400 (by decide +kernel) (by decide +kernel)
theorem zm_312 : Cond.instanceMethod ⟨"ScheduleCheck$Parser","readVariable","()V"⟩ ∈ zd_ww := zd_me 402 (by decide +kernel) (by decide +kernel)
theorem zm_313 : Cond.selects "ScheduleCheck$Parser" ⟨"ScheduleCheck$Parser","readVariable","()V"⟩ ⟨"ScheduleCheck$Parser","readVariable","()V"⟩ ∈ zd_ww := zd_ms 6 (by decide +kernel) (by decide +kernel)
theorem zm_314 : Cond.fieldLink "ScheduleCheck$Parser" 145 "ScheduleCheck$Program" "locals" "[I" ∈ zd_ww := zd_me 257 (by decide +kernel) (by decide +kernel)
theorem zm_315 : Cond.code ⟨"ScheduleCheck","localCell","(II)I"⟩ prog_1_method_19_code 2 (Option.some FieldType.int) ∈ zd_ww := zd_me 459 (by decide +kernel) (by decide +kernel)
theorem zm_316 : Cond.initialized "ScheduleCheck" ∈ zd_ww := zd_me 1 (by decide +kernel) (by decide +kernel)
theorem zm_317 : Cond.static ⟨"ScheduleCheck","localCell","(II)I"⟩ ∈ zd_ww := zd_me 458 (by decide +kernel) (by decide +kernel)
theorem zm_318 : Cond.code ⟨"ScheduleCheck$Parser","isVariable","(I)Z"⟩ prog_6_method_13_code 1 (Option.some FieldType.boolean) ∈ zd_ww := zd_me 488 (by decide +kernel) (by decide +kernel)
theorem zm_319 : Cond.methodLink "ScheduleCheck$Parser" 237 ⟨"ScheduleCheck$Parser","isVariable","(I)Z"⟩ ∈ zd_ww := zd_me 486 (by decide +kernel) (by decide +kernel)
theorem zm_320 : Cond.static ⟨"ScheduleCheck$Parser","isVariable","(I)Z"⟩ ∈ zd_ww := zd_me 487 (by decide +kernel) (by decide +kernel)
theorem zm_321 : Cond.code ⟨"ScheduleCheck$Parser","isLocal","(I)Z"⟩ prog_6_method_14_code 1 (Option.some FieldType.boolean) ∈ zd_ww := zd_me 491 (by decide +kernel) (by decide +kernel)
theorem zm_322 : Cond.methodLink "ScheduleCheck$Parser" 241 ⟨"ScheduleCheck$Parser","isLocal","(I)Z"⟩ ∈ zd_ww := zd_me 489 (by decide +kernel) (by decide +kernel)
theorem zm_323 : Cond.static ⟨"ScheduleCheck$Parser","isLocal","(I)Z"⟩ ∈ zd_ww := zd_me 490 (by decide +kernel) (by decide +kernel)
theorem zm_324 : Cond.fieldLink "ScheduleCheck$Parser" 49 "ScheduleCheck$Parser" "atoms" "I" ∈ zd_ww := zd_me 76 (by decide +kernel) (by decide +kernel)
theorem zm_325 : Cond.fieldLink "ScheduleCheck$Parser" 293 "ScheduleCheck$Program" "code" "LScheduleCheck$Code;" ∈ zd_ww := zd_me 266 (by decide +kernel) (by decide +kernel)
theorem zm_326 : Cond.code ⟨"ScheduleCheck$Code","add","(LScheduleCheck$Token;I)V"⟩ prog_3_method_2_code 3 none ∈ zd_ww := zd_me 513 (by decide +kernel) (by decide +kernel)
theorem zm_327 : Cond.methodLink "ScheduleCheck$Parser" 315 ⟨"ScheduleCheck$Code","add","(LScheduleCheck$Token;I)V"⟩ ∈ zd_ww := zd_me 510 (by decide +kernel) (by decide +kernel)
theorem zm_328 : Cond.instanceMethod ⟨"ScheduleCheck$Code","add","(LScheduleCheck$Token;I)V"⟩ ∈ zd_ww := zd_me 511 (by decide +kernel) (by decide +kernel)
theorem zm_329 : Cond.selects "ScheduleCheck$Code" ⟨"ScheduleCheck$Code","add","(LScheduleCheck$Token;I)V"⟩ ⟨"ScheduleCheck$Code","add","(LScheduleCheck$Token;I)V"⟩ ∈ zd_ww := zd_me 512 (by decide +kernel) (by decide +kernel)
theorem zm_330 : Cond.fieldLink "ScheduleCheck$Parser" 292 "ScheduleCheck$Parser" "uses" "I" ∈ zd_ww := zd_me 77 (by decide +kernel) (by decide +kernel)
theorem zm_331 : Cond.fieldLink "ScheduleCheck$Parser" 271 "ScheduleCheck$Kind" "STOP" "LScheduleCheck$Kind;" ∈ zd_ww := zd_me 551 (by decide +kernel) (by decide +kernel)
theorem zm_332 : Cond.fieldLink "ScheduleCheck$Parser" 247 "ScheduleCheck$Statement" "kind" "LScheduleCheck$Kind;" ∈ zd_ww := zd_me 171 (by decide +kernel) (by decide +kernel)
theorem zm_333 : Cond.fieldLink "ScheduleCheck$Parser" 215 "ScheduleCheck$Kind" "WAKE" "LScheduleCheck$Kind;" ∈ zd_ww := zd_me 528 (by decide +kernel) (by decide +kernel)
theorem zm_334 : Cond.fieldLink "ScheduleCheck$Parser" 259 "ScheduleCheck$Token" "ALL" "LScheduleCheck$Token;" ∈ zd_ww := zd_me 530 (by decide +kernel) (by decide +kernel)
theorem zm_335 : Cond.fieldLink "ScheduleCheck$Parser" 262 "ScheduleCheck$Kind" "WAKE_ALL" "LScheduleCheck$Kind;" ∈ zd_ww := zd_me 532 (by decide +kernel) (by decide +kernel)
theorem zm_336 : Cond.fieldLink "ScheduleCheck$Parser" 250 "ScheduleCheck$Statement" "target" "I" ∈ zd_ww := zd_me 176 (by decide +kernel) (by decide +kernel)
theorem zm_337 : Cond.code ⟨"ScheduleCheck$Parser","isLock","(I)Z"⟩ prog_6_method_12_code 1 (Option.some FieldType.boolean) ∈ zd_ww := zd_me 536 (by decide +kernel) (by decide +kernel)
theorem zm_338 : Cond.methodLink "ScheduleCheck$Parser" 265 ⟨"ScheduleCheck$Parser","isLock","(I)Z"⟩ ∈ zd_ww := zd_me 534 (by decide +kernel) (by decide +kernel)
theorem zm_339 : Cond.static ⟨"ScheduleCheck$Parser","isLock","(I)Z"⟩ ∈ zd_ww := zd_me 535 (by decide +kernel) (by decide +kernel)
/-! ScheduleCheck$Parser.fail -/
def y_Parser_fail : MethodName := ⟨"ScheduleCheck$Parser","fail","()V"⟩
theorem d_Parser_fail_0 : decode prog_6_method_3_code 0 = .ok (.aload_n 0, 1) := by decide +kernel
theorem d_Parser_fail_1 : decode prog_6_method_3_code 1 = .ok (.getfield 46, 3) := by decide +kernel
theorem d_Parser_fail_4 : decode prog_6_method_3_code 4 = .ok (.bipush (-2), 2) := by decide +kernel
theorem d_Parser_fail_6 : decode prog_6_method_3_code 6 = .ok (.if_icmp .ne 19, 3) := by decide +kernel
theorem d_Parser_fail_9 : decode prog_6_method_3_code 9 = .ok (.aload_n 0, 1) := by decide +kernel
theorem d_Parser_fail_10 : decode prog_6_method_3_code 10 = .ok (.aload_n 0, 1) := by decide +kernel
theorem d_Parser_fail_11 : decode prog_6_method_3_code 11 = .ok (.getfield 19, 3) := by decide +kernel
theorem d_Parser_fail_14 : decode prog_6_method_3_code 14 = .ok (.getfield 72, 3) := by decide +kernel
theorem d_Parser_fail_17 : decode prog_6_method_3_code 17 = .ok (.aload_n 0, 1) := by decide +kernel
theorem d_Parser_fail_18 : decode prog_6_method_3_code 18 = .ok (.getfield 23, 3) := by decide +kernel
theorem d_Parser_fail_21 : decode prog_6_method_3_code 21 = .ok (.iaload, 1) := by decide +kernel
theorem d_Parser_fail_22 : decode prog_6_method_3_code 22 = .ok (.putfield 46, 3) := by decide +kernel
theorem d_Parser_fail_25 : decode prog_6_method_3_code 25 = .ok (.aload_n 0, 1) := by decide +kernel
theorem d_Parser_fail_26 : decode prog_6_method_3_code 26 = .ok (.getstatic 75, 3) := by decide +kernel
theorem d_Parser_fail_29 : decode prog_6_method_3_code 29 = .ok (.putfield 33, 3) := by decide +kernel
theorem d_Parser_fail_32 : decode prog_6_method_3_code 32 = .ok (.return_, 1) := by decide +kernel
def zf_Parser_fail_25 (F : Nat)   (σ : zs_S) : Option (zs_S) :=
  zq_v (zs_wr σ 7 6 1001) fun σ7 =>
  some σ7
def zf_Parser_fail (F : Nat)  (σ : zs_S) : Option (zs_S) :=
  if (zs_i σ 7 8) = ((-2)) then (
    zq_q (zs_r σ 7 4) fun q1 =>
    zq_g (zq_k 0 q1 11) <|
    zq_q (zd_rf 0 q1 1) fun q3 =>
    zq_g (zq_k 0 q3 0) <|
    zq_g (zq_b (zs_i σ 7 5) (zd_sh 0 q3).2) <|
    zq_v (zs_wi σ 7 8 (zs_i σ q3 (zs_i σ 7 5).toNatClampNeg)) fun σ6 =>
    zf_Parser_fail_25 F σ6
  ) else (
    zf_Parser_fail_25 F σ
  )
set_option maxHeartbeats 4000000 in
set_option maxRecDepth 100000 in
theorem zc_Parser_fail {l : Launch} {D : va_G} {cA : Nat → ClassId} {ad : Nat → Nat} {A : Nat → Prop} {F : Nat}  {σ : zs_S} {q : zs_S} (hJ : zs_J ad) (hf : zf_Parser_fail F  σ = some q) : Met l y_Parser_fail (.code y_Parser_fail prog_6_method_3_code 1 none :: zd_ww) { frames := 0, cells := 0, slots := 0, locals := 0 } (va_Pc [.ref (ad 7)] (zs_U 0 D cA ad A σ)) (zs_Qv 0 D cA ad A q) 0 0 A := by
  refine Met.ofW (cc := prog_6_method_3_code) (maxL := 1) (ret := none) (by decide) rfl ?_
  intro p e s m args below meth c s₁ B hml hv
  obtain ⟨hargs, hP, hK, hD, hZ⟩ := hv
  have G : zs_G 0 p s m args c prog_6_method_3_code 1 "ScheduleCheck$Parser" D cA ad A := ⟨⟨B.exec, B.bytes, hml, findClass_of_methodNamed B.named, fun w h => atoms_spec B.pre w (List.mem_cons_of_mem _ h)⟩, hK, hJ, hZ⟩
  have hw : zs_I 0 D cA ad A s σ s.heap [] := ⟨hP, hD, va_S.rf⟩
  have hx := G.1.1
  have hb := G.1.2.1
  have hown := G.1.2.2.2.1
  have hts := G.1.2.2.2.2
  have hr := B.returns
  have hlocks := B.notSynchronized
  have he : entryFrame m args 1 = F0 m 0 ((lg_sl [.ref (ad 7)] ++ List.replicate (1 - (lg_sl [.ref (ad 7)]).length) Slot.unset).toArray) [] := by rw [hargs]; exact lg_entry_eq m _ 1
  have hl := lv_entry [.ref (ad 7)] (n := 1) (Nat.le_of_ble_eq_true rfl)
  rw [he]
  generalize (lg_sl [.ref (ad 7)] ++ List.replicate (1 - (lg_sl [.ref (ad 7)]).length) Slot.unset).toArray = ls at hl
  have hl : lv_has ls 1 [(0, .ref (ad 7))] := hl
  obtain ⟨RR, hR⟩ : ∃ z, z = (headSpec (.code y_Parser_fail prog_6_method_3_code 1 none :: zd_ww) { frames := 0, cells := 0, slots := 0, locals := 0 }).room := ⟨_, rfl⟩
  rw [← hR]
  obtain ⟨QQ, hQ⟩ : ∃ z, z = MQ below (zs_Qv 0 D cA ad A q) args s 0 0 A := ⟨_, rfl⟩
  rw [← hQ]
  have hR1 : 0 ≤ RR.frames := by rw [hR]; exact Nat.le_refl _
  have hR2 : 0 ≤ RR.locals := by rw [hR]; exact Nat.le_refl _
  generalize s.heap = H at hw ⊢
  generalize ([] : List Loc) = locs at hw ⊢
  have K25 : ∀ (σ : zs_S) (H : Heap) (locs : List Loc) (ls : Array Slot), zf_Parser_fail_25 F σ = some q → zs_I 0 D cA ad A s σ H locs → lv_has ls 1 [(0, .ref (ad 7))] → W p l e RR s m args below meth c H locs 0 0 QQ (F0 m 25 ls []) := by
    intro   σ H locs ls hf hw hl
    unfold zf_Parser_fail_25 at hf
    refine lv_aload_n hx hb d_Parser_fail_25 rfl (lv_at hl 0 rfl) ?_
    refine va_gets (C := "ScheduleCheck$Token") (n := "BAD") (d := "LScheduleCheck$Token;") (v := .ref (ad 1001)) hx hb ((G.2.2.2.1 rfl).1.1 1 (by decide)).1 hw.2.2 hown (hts _ zm_262) (fun _ h => h) d_Parser_fail_26 ?_
    obtain ⟨σ7, e_σ7, hf⟩ := zq_ss hf
    refine zr_putr (ci := 2) G hw 7 6 zi_2 t_zd2 t_zd2_ok n_zd2 rfl rfl rfl (by decide) rfl zm_263 (fun _ h => h) rfl (x := 1001) (by decide) (t_zd2_ok 6 (by decide)) rfl rfl d_Parser_fail_29 (fun H locs hw => ?_)
    rw [← e_σ7] at hw
    exact zr_vret G hw hr hlocks hf hQ d_Parser_fail_32
  unfold zf_Parser_fail at hf
  refine lv_aload_n hx hb d_Parser_fail_0 rfl (lv_at hl 0 rfl) ?_
  refine zr_get (ci := 2) G hw 7 8 zi_2 rfl rfl rfl (by decide) zm_258 (fun _ h => h) (v := .int (zs_i σ 7 8)) rfl d_Parser_fail_1 ?_
  refine lv_bipush (v := (-2)) hx hb d_Parser_fail_4 (by decide) ?_
  refine lv_icmp_ne hx hb d_Parser_fail_6 (tgt := 25) rfl (fun hc => ?_) (fun hc => ?_)
  · have hf := (if_neg hc).symm.trans hf
    exact K25 σ H locs ls hf hw (lv_sub hl [0] rfl)
  · have hf := (if_pos hc).symm.trans hf
    refine lv_aload_n hx hb d_Parser_fail_9 rfl (lv_at hl 0 rfl) ?_
    refine lv_aload_n hx hb d_Parser_fail_10 rfl (lv_at hl 0 rfl) ?_
    obtain ⟨q1, e_q1, h_q1, hf⟩ := zq_qs hf
    refine zr_get (ci := 2) G hw 7 4 zi_2 rfl rfl rfl (by decide) zm_259 (fun _ h => h) (v := .ref (ad q1)) (zs_fr rfl e_q1 h_q1) d_Parser_fail_11 ?_
    obtain ⟨hs2, hf⟩ := zq_gs hf
    have hs2 := zq_ks hs2
    obtain ⟨q3, e_q3, h_q3, hf⟩ := zq_qs hf
    refine zr_get (ci := 1) G hw q1 1 zi_1 hs2 rfl rfl (by decide) zm_260 (fun _ h => h) (v := .ref (ad q3)) (zs_fs rfl e_q3 h_q3) d_Parser_fail_14 ?_
    refine lv_aload_n hx hb d_Parser_fail_17 rfl (lv_at hl 0 rfl) ?_
    refine zr_get (ci := 2) G hw 7 5 zi_2 rfl rfl rfl (by decide) zm_261 (fun _ h => h) (v := .int (zs_i σ 7 5)) rfl d_Parser_fail_18 ?_
    obtain ⟨hs4, hf⟩ := zq_gs hf
    have hs4 := zq_ks hs4
    obtain ⟨hi5, hf⟩ := zq_gs hf
    refine zr_iald G hw q3 hs4 rfl hi5 d_Parser_fail_21 ?_
    obtain ⟨σ6, e_σ6, hf⟩ := zq_ss hf
    refine zr_puti (ci := 2) G hw 7 8 zi_2 t_zd2 t_zd2_ok n_zd2 rfl rfl rfl (by decide) rfl zm_258 (fun _ h => h) rfl (x := (zs_i σ q3 (zs_i σ 7 5).toNatClampNeg)) (t_zd2_ok 8 (by decide)) rfl rfl d_Parser_fail_22 (fun H locs hw => ?_)
    rw [← e_σ6] at hw
    exact K25 σ6 H locs ls hf hw (lv_sub hl [0] rfl)
/-! ScheduleCheck$Parser.advance -/
def y_Parser_advance : MethodName := ⟨"ScheduleCheck$Parser","advance","()V"⟩
theorem d_Parser_advance_0 : decode prog_6_method_4_code 0 = .ok (.aload_n 0, 1) := by decide +kernel
theorem d_Parser_advance_1 : decode prog_6_method_4_code 1 = .ok (.getfield 46, 3) := by decide +kernel
theorem d_Parser_advance_4 : decode prog_6_method_4_code 4 = .ok (.bipush (-2), 2) := by decide +kernel
theorem d_Parser_advance_6 : decode prog_6_method_4_code 6 = .ok (.if_icmp .ne 39, 3) := by decide +kernel
theorem d_Parser_advance_9 : decode prog_6_method_4_code 9 = .ok (.aload_n 0, 1) := by decide +kernel
theorem d_Parser_advance_10 : decode prog_6_method_4_code 10 = .ok (.getfield 23, 3) := by decide +kernel
theorem d_Parser_advance_13 : decode prog_6_method_4_code 13 = .ok (.sipush 1600, 3) := by decide +kernel
theorem d_Parser_advance_16 : decode prog_6_method_4_code 16 = .ok (.if_icmp .ge 29, 3) := by decide +kernel
theorem d_Parser_advance_19 : decode prog_6_method_4_code 19 = .ok (.aload_n 0, 1) := by decide +kernel
theorem d_Parser_advance_20 : decode prog_6_method_4_code 20 = .ok (.dup, 1) := by decide +kernel
theorem d_Parser_advance_21 : decode prog_6_method_4_code 21 = .ok (.getfield 23, 3) := by decide +kernel
theorem d_Parser_advance_24 : decode prog_6_method_4_code 24 = .ok (.iconst 1, 1) := by decide +kernel
theorem d_Parser_advance_25 : decode prog_6_method_4_code 25 = .ok (.iadd, 1) := by decide +kernel
theorem d_Parser_advance_26 : decode prog_6_method_4_code 26 = .ok (.putfield 23, 3) := by decide +kernel
theorem d_Parser_advance_29 : decode prog_6_method_4_code 29 = .ok (.aload_n 0, 1) := by decide +kernel
theorem d_Parser_advance_30 : decode prog_6_method_4_code 30 = .ok (.aload_n 0, 1) := by decide +kernel
theorem d_Parser_advance_31 : decode prog_6_method_4_code 31 = .ok (.getfield 19, 3) := by decide +kernel
theorem d_Parser_advance_34 : decode prog_6_method_4_code 34 = .ok (.getfield 27, 3) := by decide +kernel
theorem d_Parser_advance_37 : decode prog_6_method_4_code 37 = .ok (.aload_n 0, 1) := by decide +kernel
theorem d_Parser_advance_38 : decode prog_6_method_4_code 38 = .ok (.getfield 23, 3) := by decide +kernel
theorem d_Parser_advance_41 : decode prog_6_method_4_code 41 = .ok (.aaload, 1) := by decide +kernel
theorem d_Parser_advance_42 : decode prog_6_method_4_code 42 = .ok (.putfield 33, 3) := by decide +kernel
theorem d_Parser_advance_45 : decode prog_6_method_4_code 45 = .ok (.return_, 1) := by decide +kernel
def zf_Parser_advance_45 (F : Nat)   (σ : zs_S) : Option (zs_S) :=
  some σ
def zf_Parser_advance (F : Nat)  (σ : zs_S) : Option (zs_S) :=
  if (zs_i σ 7 8) = ((-2)) then (
    if 1600 ≤ (zs_i σ 7 5) then (
      zf_Parser_advance_45 F σ
    ) else (
      zq_v (zs_wi σ 7 5 ((zs_i σ 7 5) + 1)) fun σ1 =>
      zq_q (zs_r σ1 7 4) fun q2 =>
      zq_g (zq_k 0 q2 11) <|
      zq_q (zd_rf 0 q2 0) fun q4 =>
      zq_g (zq_k 0 q4 4) <|
      zq_g (zq_b (zs_i σ1 7 5) (zd_sh 0 q4).2) <|
      zq_q (zs_r σ1 q4 (zs_i σ1 7 5).toNatClampNeg) fun q7 =>
      zq_v (zs_wr σ1 7 6 q7) fun σ8 =>
      zf_Parser_advance_45 F σ8
    )
  ) else (
    zf_Parser_advance_45 F σ
  )
set_option maxHeartbeats 4000000 in
set_option maxRecDepth 100000 in
theorem zc_Parser_advance {l : Launch} {D : va_G} {cA : Nat → ClassId} {ad : Nat → Nat} {A : Nat → Prop} {F : Nat}  {σ : zs_S} {q : zs_S} (hJ : zs_J ad) (hf : zf_Parser_advance F  σ = some q) : Met l y_Parser_advance (.code y_Parser_advance prog_6_method_4_code 1 none :: zd_ww) { frames := 0, cells := 0, slots := 0, locals := 0 } (va_Pc [.ref (ad 7)] (zs_U 0 D cA ad A σ)) (zs_Qv 0 D cA ad A q) 0 0 A := by
  refine Met.ofW (cc := prog_6_method_4_code) (maxL := 1) (ret := none) (by decide) rfl ?_
  intro p e s m args below meth c s₁ B hml hv
  obtain ⟨hargs, hP, hK, hD, hZ⟩ := hv
  have G : zs_G 0 p s m args c prog_6_method_4_code 1 "ScheduleCheck$Parser" D cA ad A := ⟨⟨B.exec, B.bytes, hml, findClass_of_methodNamed B.named, fun w h => atoms_spec B.pre w (List.mem_cons_of_mem _ h)⟩, hK, hJ, hZ⟩
  have hw : zs_I 0 D cA ad A s σ s.heap [] := ⟨hP, hD, va_S.rf⟩
  have hx := G.1.1
  have hb := G.1.2.1
  have hown := G.1.2.2.2.1
  have hts := G.1.2.2.2.2
  have hr := B.returns
  have hlocks := B.notSynchronized
  have he : entryFrame m args 1 = F0 m 0 ((lg_sl [.ref (ad 7)] ++ List.replicate (1 - (lg_sl [.ref (ad 7)]).length) Slot.unset).toArray) [] := by rw [hargs]; exact lg_entry_eq m _ 1
  have hl := lv_entry [.ref (ad 7)] (n := 1) (Nat.le_of_ble_eq_true rfl)
  rw [he]
  generalize (lg_sl [.ref (ad 7)] ++ List.replicate (1 - (lg_sl [.ref (ad 7)]).length) Slot.unset).toArray = ls at hl
  have hl : lv_has ls 1 [(0, .ref (ad 7))] := hl
  obtain ⟨RR, hR⟩ : ∃ z, z = (headSpec (.code y_Parser_advance prog_6_method_4_code 1 none :: zd_ww) { frames := 0, cells := 0, slots := 0, locals := 0 }).room := ⟨_, rfl⟩
  rw [← hR]
  obtain ⟨QQ, hQ⟩ : ∃ z, z = MQ below (zs_Qv 0 D cA ad A q) args s 0 0 A := ⟨_, rfl⟩
  rw [← hQ]
  have hR1 : 0 ≤ RR.frames := by rw [hR]; exact Nat.le_refl _
  have hR2 : 0 ≤ RR.locals := by rw [hR]; exact Nat.le_refl _
  generalize s.heap = H at hw ⊢
  generalize ([] : List Loc) = locs at hw ⊢
  have K45 : ∀ (σ : zs_S) (H : Heap) (locs : List Loc) (ls : Array Slot), zf_Parser_advance_45 F σ = some q → zs_I 0 D cA ad A s σ H locs → lv_has ls 1 [] → W p l e RR s m args below meth c H locs 0 0 QQ (F0 m 45 ls []) := by
    intro   σ H locs ls hf hw hl
    unfold zf_Parser_advance_45 at hf
    exact zr_vret G hw hr hlocks hf hQ d_Parser_advance_45
  unfold zf_Parser_advance at hf
  refine lv_aload_n hx hb d_Parser_advance_0 rfl (lv_at hl 0 rfl) ?_
  refine zr_get (ci := 2) G hw 7 8 zi_2 rfl rfl rfl (by decide) zm_258 (fun _ h => h) (v := .int (zs_i σ 7 8)) rfl d_Parser_advance_1 ?_
  refine lv_bipush (v := (-2)) hx hb d_Parser_advance_4 (by decide) ?_
  refine lv_icmp_ne hx hb d_Parser_advance_6 (tgt := 45) rfl (fun hc => ?_) (fun hc => ?_)
  · have hf := (if_neg hc).symm.trans hf
    exact K45 σ H locs ls hf hw (lv_sub hl [] rfl)
  · have hf := (if_pos hc).symm.trans hf
    refine lv_aload_n hx hb d_Parser_advance_9 rfl (lv_at hl 0 rfl) ?_
    refine zr_get (ci := 2) G hw 7 5 zi_2 rfl rfl rfl (by decide) zm_261 (fun _ h => h) (v := .int (zs_i σ 7 5)) rfl d_Parser_advance_10 ?_
    refine lv_sipush (v := 1600) hx hb d_Parser_advance_13 (by decide) ?_
    refine lv_icmp_ge hx hb d_Parser_advance_16 (tgt := 45) rfl (fun hc => ?_) (fun hc => ?_)
    · have hf := (if_pos hc).symm.trans hf
      exact K45 σ H locs ls hf hw (lv_sub hl [] rfl)
    · have hf := (if_neg hc).symm.trans hf
      refine lv_aload_n hx hb d_Parser_advance_19 rfl (lv_at hl 0 rfl) ?_
      refine lv_dup hx hb d_Parser_advance_20 rfl ?_
      refine zr_get (ci := 2) G hw 7 5 zi_2 rfl rfl rfl (by decide) zm_261 (fun _ h => h) (v := .int (zs_i σ 7 5)) rfl d_Parser_advance_21 ?_
      refine lv_iconst (v := 1) hx hb d_Parser_advance_24 (by decide) ?_
      refine lv_iadd hx hb d_Parser_advance_25 ?_
      obtain ⟨σ1, e_σ1, hf⟩ := zq_ss hf
      refine zr_puti (ci := 2) G hw 7 5 zi_2 t_zd2 t_zd2_ok n_zd2 rfl rfl rfl (by decide) rfl zm_261 (fun _ h => h) rfl (x := ((zs_i σ 7 5) + 1)) (t_zd2_ok 5 (by decide)) rfl rfl d_Parser_advance_26 (fun H locs hw => ?_)
      rw [← e_σ1] at hw
      refine lv_aload_n hx hb d_Parser_advance_29 rfl (lv_at hl 0 rfl) ?_
      refine lv_aload_n hx hb d_Parser_advance_30 rfl (lv_at hl 0 rfl) ?_
      obtain ⟨q2, e_q2, h_q2, hf⟩ := zq_qs hf
      refine zr_get (ci := 2) G hw 7 4 zi_2 rfl rfl rfl (by decide) zm_259 (fun _ h => h) (v := .ref (ad q2)) (zs_fr rfl e_q2 h_q2) d_Parser_advance_31 ?_
      obtain ⟨hs3, hf⟩ := zq_gs hf
      have hs3 := zq_ks hs3
      obtain ⟨q4, e_q4, h_q4, hf⟩ := zq_qs hf
      refine zr_get (ci := 1) G hw q2 0 zi_1 hs3 rfl rfl (by decide) zm_264 (fun _ h => h) (v := .ref (ad q4)) (zs_fs rfl e_q4 h_q4) d_Parser_advance_34 ?_
      refine lv_aload_n hx hb d_Parser_advance_37 rfl (lv_at hl 0 rfl) ?_
      refine zr_get (ci := 2) G hw 7 5 zi_2 rfl rfl rfl (by decide) zm_261 (fun _ h => h) (v := .int (zs_i σ1 7 5)) rfl d_Parser_advance_38 ?_
      obtain ⟨hs5, hf⟩ := zq_gs hf
      have hs5 := zq_ks hs5
      obtain ⟨hi6, hf⟩ := zq_gs hf
      obtain ⟨q7, e_q7, h_q7, hf⟩ := zq_qs hf
      refine zr_aald G hw q4 hs5 rfl hi6 (by rw [← e_q7]; exact h_q7) d_Parser_advance_41 ?_
      rw [← e_q7]
      obtain ⟨σ8, e_σ8, hf⟩ := zq_ss hf
      refine zr_putr (ci := 2) G hw 7 6 zi_2 t_zd2 t_zd2_ok n_zd2 rfl rfl rfl (by decide) rfl zm_263 (fun _ h => h) rfl (x := q7) h_q7 (t_zd2_ok 6 (by decide)) rfl rfl d_Parser_advance_42 (fun H locs hw => ?_)
      rw [← e_σ8] at hw
      exact K45 σ8 H locs ls hf hw (lv_sub hl [] rfl)
/-! ScheduleCheck$Parser.expect -/
def y_Parser_expect : MethodName := ⟨"ScheduleCheck$Parser","expect","(LScheduleCheck$Token;)V"⟩
theorem d_Parser_expect_0 : decode prog_6_method_5_code 0 = .ok (.aload_n 0, 1) := by decide +kernel
theorem d_Parser_expect_1 : decode prog_6_method_5_code 1 = .ok (.getfield 33, 3) := by decide +kernel
theorem d_Parser_expect_4 : decode prog_6_method_5_code 4 = .ok (.aload_n 1, 1) := by decide +kernel
theorem d_Parser_expect_5 : decode prog_6_method_5_code 5 = .ok (.if_acmp .ne 10, 3) := by decide +kernel
theorem d_Parser_expect_8 : decode prog_6_method_5_code 8 = .ok (.aload_n 0, 1) := by decide +kernel
theorem d_Parser_expect_9 : decode prog_6_method_5_code 9 = .ok (.invokevirtual 78, 3) := by decide +kernel
theorem d_Parser_expect_12 : decode prog_6_method_5_code 12 = .ok (.goto 7, 3) := by decide +kernel
theorem d_Parser_expect_15 : decode prog_6_method_5_code 15 = .ok (.aload_n 0, 1) := by decide +kernel
theorem d_Parser_expect_16 : decode prog_6_method_5_code 16 = .ok (.invokevirtual 66, 3) := by decide +kernel
theorem d_Parser_expect_19 : decode prog_6_method_5_code 19 = .ok (.return_, 1) := by decide +kernel
def zf_Parser_expect_19 (F : Nat)   (σ : zs_S) : Option (zs_S) :=
  some σ
def zf_Parser_expect (F : Nat) (x1 : Nat) (σ : zs_S) : Option (zs_S) :=
  zq_q (zs_r σ 7 6) fun q1 =>
  zq_g (decide (q1 < 1200)) <|
  zq_g (decide (x1 < 1200)) <|
  if q1 = x1 then (
    zq_d (zf_Parser_advance F σ) fun σ7 =>
    zf_Parser_expect_19 F σ7
  ) else (
    zq_d (zf_Parser_fail F σ) fun σ4 =>
    zf_Parser_expect_19 F σ4
  )
set_option maxHeartbeats 4000000 in
set_option maxRecDepth 100000 in
theorem zc_Parser_expect {l : Launch} {D : va_G} {cA : Nat → ClassId} {ad : Nat → Nat} {A : Nat → Prop} {F : Nat} {x1 : Nat} {σ : zs_S} {q : zs_S} (hJ : zs_J ad) (hf : zf_Parser_expect F x1 σ = some q) : Met l y_Parser_expect (.code y_Parser_expect prog_6_method_5_code 2 none :: zd_ww) { frames := 1, cells := 0, slots := 0, locals := 20 } (va_Pc [.ref (ad 7), .ref (ad x1)] (zs_U 0 D cA ad A σ)) (zs_Qv 0 D cA ad A q) 0 0 A := by
  refine Met.ofW (cc := prog_6_method_5_code) (maxL := 2) (ret := none) (by decide) rfl ?_
  intro p e s m args below meth c s₁ B hml hv
  obtain ⟨hargs, hP, hK, hD, hZ⟩ := hv
  have G : zs_G 0 p s m args c prog_6_method_5_code 2 "ScheduleCheck$Parser" D cA ad A := ⟨⟨B.exec, B.bytes, hml, findClass_of_methodNamed B.named, fun w h => atoms_spec B.pre w (List.mem_cons_of_mem _ h)⟩, hK, hJ, hZ⟩
  have hw : zs_I 0 D cA ad A s σ s.heap [] := ⟨hP, hD, va_S.rf⟩
  have hx := G.1.1
  have hb := G.1.2.1
  have hown := G.1.2.2.2.1
  have hts := G.1.2.2.2.2
  have hr := B.returns
  have hlocks := B.notSynchronized
  have he : entryFrame m args 2 = F0 m 0 ((lg_sl [.ref (ad 7), .ref (ad x1)] ++ List.replicate (2 - (lg_sl [.ref (ad 7), .ref (ad x1)]).length) Slot.unset).toArray) [] := by rw [hargs]; exact lg_entry_eq m _ 2
  have hl := lv_entry [.ref (ad 7), .ref (ad x1)] (n := 2) (Nat.le_of_ble_eq_true rfl)
  rw [he]
  generalize (lg_sl [.ref (ad 7), .ref (ad x1)] ++ List.replicate (2 - (lg_sl [.ref (ad 7), .ref (ad x1)]).length) Slot.unset).toArray = ls at hl
  have hl : lv_has ls 2 [(0, .ref (ad 7)), (1, .ref (ad x1))] := hl
  obtain ⟨RR, hR⟩ : ∃ z, z = (headSpec (.code y_Parser_expect prog_6_method_5_code 2 none :: zd_ww) { frames := 1, cells := 0, slots := 0, locals := 20 }).room := ⟨_, rfl⟩
  rw [← hR]
  obtain ⟨QQ, hQ⟩ : ∃ z, z = MQ below (zs_Qv 0 D cA ad A q) args s 0 0 A := ⟨_, rfl⟩
  rw [← hQ]
  have hR1 : 1 ≤ RR.frames := by rw [hR]; exact Nat.le_refl _
  have hR2 : 20 ≤ RR.locals := by rw [hR]; exact Nat.le_refl _
  generalize s.heap = H at hw ⊢
  generalize ([] : List Loc) = locs at hw ⊢
  have K19 : ∀ (σ : zs_S) (H : Heap) (locs : List Loc) (ls : Array Slot), zf_Parser_expect_19 F σ = some q → zs_I 0 D cA ad A s σ H locs → lv_has ls 2 [] → W p l e RR s m args below meth c H locs 0 0 QQ (F0 m 19 ls []) := by
    intro   σ H locs ls hf hw hl
    unfold zf_Parser_expect_19 at hf
    exact zr_vret G hw hr hlocks hf hQ d_Parser_expect_19
  unfold zf_Parser_expect at hf
  refine lv_aload_n hx hb d_Parser_expect_0 rfl (lv_at hl 0 rfl) ?_
  obtain ⟨q1, e_q1, h_q1, hf⟩ := zq_qs hf
  refine zr_get (ci := 2) G hw 7 6 zi_2 rfl rfl rfl (by decide) zm_263 (fun _ h => h) (v := .ref (ad q1)) (zs_fr rfl e_q1 h_q1) d_Parser_expect_1 ?_
  refine lv_aload_n hx hb d_Parser_expect_4 rfl (lv_at hl 1 rfl) ?_
  obtain ⟨hm2, hf⟩ := zq_gs hf
  obtain ⟨hm3, hf⟩ := zq_gs hf
  refine zr_ane G (of_decide_eq_true hm2) (of_decide_eq_true hm3) d_Parser_expect_5 (tgt := 15) rfl (fun hc => ?_) (fun hc => ?_)
  · have hf := (if_neg hc).symm.trans hf
    refine lv_aload_n hx hb d_Parser_expect_15 rfl (lv_at hl 0 rfl) ?_
    obtain ⟨σ4, hc6, hf⟩ := zq_ds hf
    refine zr_cv hw (zr_runV (rest := []) (ci := 2) (o := 7) G hw [] (zc_Parser_fail hJ hc6) (cwV 0 hts (zs_gV zm_266 zm_267 zm_268 zm_269 zm_265) rfl rfl rfl (by decide +kernel) ⟨Nat.le_trans (by decide) hR1, Nat.le_trans (by decide) hR2⟩) rfl rfl rfl hl.1 (Nat.le_of_ble_eq_true rfl) d_Parser_expect_16 ⟨Nat.zero_le _, Nat.zero_le _⟩) (fun H locs hw => ?_)
    exact K19 σ4 H locs ls hf hw (lv_sub hl [] rfl)
  · have hf := (if_pos hc).symm.trans hf
    refine lv_aload_n hx hb d_Parser_expect_8 rfl (lv_at hl 0 rfl) ?_
    obtain ⟨σ7, hc9, hf⟩ := zq_ds hf
    refine zr_cv hw (zr_runV (rest := []) (ci := 2) (o := 7) G hw [] (zc_Parser_advance hJ hc9) (cwV 0 hts (zs_gV zm_271 zm_272 zm_273 zm_269 zm_270) rfl rfl rfl (by decide +kernel) ⟨Nat.le_trans (by decide) hR1, Nat.le_trans (by decide) hR2⟩) rfl rfl rfl hl.1 (Nat.le_of_ble_eq_true rfl) d_Parser_expect_9 ⟨Nat.zero_le _, Nat.zero_le _⟩) (fun H locs hw => ?_)
    refine lv_goto hx hb d_Parser_expect_12 (tgt := 19) rfl ?_
    exact K19 σ7 H locs ls hf hw (lv_sub hl [] rfl)
/-! ScheduleCheck$Parser.find -/
def y_Parser_find : MethodName := ⟨"ScheduleCheck$Parser","find","(I)I"⟩
theorem d_Parser_find_0 : decode prog_6_method_11_code 0 = .ok (.aload_n 0, 1) := by decide +kernel
theorem d_Parser_find_1 : decode prog_6_method_11_code 1 = .ok (.getfield 81, 3) := by decide +kernel
theorem d_Parser_find_4 : decode prog_6_method_11_code 4 = .ok (.iconst 1, 1) := by decide +kernel
theorem d_Parser_find_5 : decode prog_6_method_11_code 5 = .ok (.isub, 1) := by decide +kernel
theorem d_Parser_find_6 : decode prog_6_method_11_code 6 = .ok (.istore_n 2, 1) := by decide +kernel
theorem d_Parser_find_7 : decode prog_6_method_11_code 7 = .ok (.iload_n 2, 1) := by decide +kernel
theorem d_Parser_find_8 : decode prog_6_method_11_code 8 = .ok (.iload_n 1, 1) := by decide +kernel
theorem d_Parser_find_9 : decode prog_6_method_11_code 9 = .ok (.if_icmp .lt 48, 3) := by decide +kernel
theorem d_Parser_find_12 : decode prog_6_method_11_code 12 = .ok (.aload_n 0, 1) := by decide +kernel
theorem d_Parser_find_13 : decode prog_6_method_11_code 13 = .ok (.getfield 33, 3) := by decide +kernel
theorem d_Parser_find_16 : decode prog_6_method_11_code 16 = .ok (.getstatic 135, 3) := by decide +kernel
theorem d_Parser_find_19 : decode prog_6_method_11_code 19 = .ok (.if_acmp .ne 32, 3) := by decide +kernel
theorem d_Parser_find_22 : decode prog_6_method_11_code 22 = .ok (.aload_n 0, 1) := by decide +kernel
theorem d_Parser_find_23 : decode prog_6_method_11_code 23 = .ok (.getfield 9, 3) := by decide +kernel
theorem d_Parser_find_26 : decode prog_6_method_11_code 26 = .ok (.iload_n 2, 1) := by decide +kernel
theorem d_Parser_find_27 : decode prog_6_method_11_code 27 = .ok (.laload, 1) := by decide +kernel
theorem d_Parser_find_28 : decode prog_6_method_11_code 28 = .ok (.aload_n 0, 1) := by decide +kernel
theorem d_Parser_find_29 : decode prog_6_method_11_code 29 = .ok (.getfield 19, 3) := by decide +kernel
theorem d_Parser_find_32 : decode prog_6_method_11_code 32 = .ok (.getfield 126, 3) := by decide +kernel
theorem d_Parser_find_35 : decode prog_6_method_11_code 35 = .ok (.aload_n 0, 1) := by decide +kernel
theorem d_Parser_find_36 : decode prog_6_method_11_code 36 = .ok (.getfield 23, 3) := by decide +kernel
theorem d_Parser_find_39 : decode prog_6_method_11_code 39 = .ok (.laload, 1) := by decide +kernel
theorem d_Parser_find_40 : decode prog_6_method_11_code 40 = .ok (.lcmp, 1) := by decide +kernel
theorem d_Parser_find_41 : decode prog_6_method_11_code 41 = .ok (.ifCond .ne 10, 3) := by decide +kernel
theorem d_Parser_find_44 : decode prog_6_method_11_code 44 = .ok (.aload_n 0, 1) := by decide +kernel
theorem d_Parser_find_45 : decode prog_6_method_11_code 45 = .ok (.getfield 15, 3) := by decide +kernel
theorem d_Parser_find_48 : decode prog_6_method_11_code 48 = .ok (.iload_n 2, 1) := by decide +kernel
theorem d_Parser_find_49 : decode prog_6_method_11_code 49 = .ok (.iaload, 1) := by decide +kernel
theorem d_Parser_find_50 : decode prog_6_method_11_code 50 = .ok (.ireturn, 1) := by decide +kernel
theorem d_Parser_find_51 : decode prog_6_method_11_code 51 = .ok (.iinc 2 (-1), 3) := by decide +kernel
theorem d_Parser_find_54 : decode prog_6_method_11_code 54 = .ok (.goto (-47), 3) := by decide +kernel
theorem d_Parser_find_57 : decode prog_6_method_11_code 57 = .ok (.bipush (-2), 2) := by decide +kernel
theorem d_Parser_find_59 : decode prog_6_method_11_code 59 = .ok (.ireturn, 1) := by decide +kernel
def zf_Parser_find_51 (F : Nat) (k7 : Int32 → Int32 → zs_S → Option (Int32 × zs_S)) (x1 : Int32) (x2 : Int32) (σ : zs_S) : Option (Int32 × zs_S) :=
  zq_v (x2 + (-1)) fun v11 =>
  k7 x1 v11 σ
def zf_Parser_find_7 (F : Nat)  : Nat → Int32 → Int32 → zs_S → Option (Int32 × zs_S)
  | 0, _, _, _ => none
  | n + 1, x1, x2, σ =>
    if x2 < x1 then (
      some ((-2), σ)
    ) else (
      zq_q (zs_r σ 7 6) fun q2 =>
      zq_g (decide (q2 < 1200)) <|
      if q2 = 1002 then (
        zq_g (zq_b x2 15) <|
        zq_q (zs_r σ 7 4) fun q5 =>
        zq_g (zq_k 0 q5 11) <|
        zq_q (zd_rf 0 q5 2) fun q7 =>
        zq_g (zq_k 0 q7 3) <|
        zq_g (zq_b (zs_i σ 7 5) (zd_sh 0 q7).2) <|
        if (lg_cmp (zs_l σ 8 (x2).toNatClampNeg) (zs_l σ q7 (zs_i σ 7 5).toNatClampNeg)) = 0 then (
          zq_g (zq_b x2 15) <|
          some (zs_i σ 9 (x2).toNatClampNeg, σ)
        ) else (
          zf_Parser_find_51 F (zf_Parser_find_7 F n) x1 x2 σ
        )
      ) else (
        zf_Parser_find_51 F (zf_Parser_find_7 F n) x1 x2 σ
      )
    )
def zf_Parser_find (F : Nat) (x1 : Int32) (σ : zs_S) : Option (Int32 × zs_S) :=
  zq_v ((zs_i σ 7 2) - 1) fun v1 =>
  zf_Parser_find_7 F F x1 v1 σ
set_option maxHeartbeats 4000000 in
set_option maxRecDepth 100000 in
theorem zc_Parser_find {l : Launch} {D : va_G} {cA : Nat → ClassId} {ad : Nat → Nat} {A : Nat → Prop} {F : Nat} {x1 : Int32} {σ : zs_S} {q : Int32 × zs_S} (hJ : zs_J ad) (hf : zf_Parser_find F x1 σ = some q) : Met l y_Parser_find (.code y_Parser_find prog_6_method_11_code 3 (some .int) :: zd_ww) { frames := 0, cells := 0, slots := 0, locals := 0 } (va_Pc [.ref (ad 7), .int x1] (zs_U 0 D cA ad A σ)) (zs_Qi 0 D cA ad A q) 0 0 A := by
  refine Met.ofW (cc := prog_6_method_11_code) (maxL := 3) (ret := (some .int)) (by decide) rfl ?_
  intro p e s m args below meth c s₁ B hml hv
  obtain ⟨hargs, hP, hK, hD, hZ⟩ := hv
  have G : zs_G 0 p s m args c prog_6_method_11_code 3 "ScheduleCheck$Parser" D cA ad A := ⟨⟨B.exec, B.bytes, hml, findClass_of_methodNamed B.named, fun w h => atoms_spec B.pre w (List.mem_cons_of_mem _ h)⟩, hK, hJ, hZ⟩
  have hw : zs_I 0 D cA ad A s σ s.heap [] := ⟨hP, hD, va_S.rf⟩
  have hx := G.1.1
  have hb := G.1.2.1
  have hown := G.1.2.2.2.1
  have hts := G.1.2.2.2.2
  have hr := B.returns
  have hlocks := B.notSynchronized
  have he : entryFrame m args 3 = F0 m 0 ((lg_sl [.ref (ad 7), .int x1] ++ List.replicate (3 - (lg_sl [.ref (ad 7), .int x1]).length) Slot.unset).toArray) [] := by rw [hargs]; exact lg_entry_eq m _ 3
  have hl := lv_entry [.ref (ad 7), .int x1] (n := 3) (Nat.le_of_ble_eq_true rfl)
  rw [he]
  generalize (lg_sl [.ref (ad 7), .int x1] ++ List.replicate (3 - (lg_sl [.ref (ad 7), .int x1]).length) Slot.unset).toArray = ls at hl
  have hl : lv_has ls 3 [(0, .ref (ad 7)), (1, .int x1)] := hl
  obtain ⟨RR, hR⟩ : ∃ z, z = (headSpec (.code y_Parser_find prog_6_method_11_code 3 (some .int) :: zd_ww) { frames := 0, cells := 0, slots := 0, locals := 0 }).room := ⟨_, rfl⟩
  rw [← hR]
  obtain ⟨QQ, hQ⟩ : ∃ z, z = MQ below (zs_Qi 0 D cA ad A q) args s 0 0 A := ⟨_, rfl⟩
  rw [← hQ]
  have hR1 : 0 ≤ RR.frames := by rw [hR]; exact Nat.le_refl _
  have hR2 : 0 ≤ RR.locals := by rw [hR]; exact Nat.le_refl _
  generalize s.heap = H at hw ⊢
  generalize ([] : List Loc) = locs at hw ⊢
  have K51 : ∀ (k7 : Int32 → Int32 → zs_S → Option (Int32 × zs_S)) (hk7 : ∀ (x1 : Int32) (x2 : Int32) (σ : zs_S) (H : Heap) (locs : List Loc) (ls : Array Slot), k7 x1 x2 σ = some q → zs_I 0 D cA ad A s σ H locs → lv_has ls 3 [(0, .ref (ad 7)), (1, .int x1), (2, .int x2)] → W p l e RR s m args below meth c H locs 0 0 QQ (F0 m 7 ls [])) (x1 : Int32) (x2 : Int32) (σ : zs_S) (H : Heap) (locs : List Loc) (ls : Array Slot), zf_Parser_find_51 F k7 x1 x2 σ = some q → zs_I 0 D cA ad A s σ H locs → lv_has ls 3 [(0, .ref (ad 7)), (1, .int x1), (2, .int x2)] → W p l e RR s m args below meth c H locs 0 0 QQ (F0 m 51 ls []) := by
    intro k7 hk7 x1 x2 σ H locs ls hf hw hl
    unfold zf_Parser_find_51 at hf
    obtain ⟨v11, e_v11, hf⟩ := zq_ss hf
    refine lv_iinc (v := v11) hx hb d_Parser_find_51 hl (k := 2) rfl (zq_inc (k := (-1)) (by decide) e_v11) (by decide) rfl (fun ls hl => ?_)
    have hl : lv_has ls 3 [(2, .int v11), (0, .ref (ad 7)), (1, .int x1)] := hl
    refine lv_goto hx hb d_Parser_find_54 (tgt := 7) rfl ?_
    exact hk7 x1 v11 σ H locs ls hf hw (lv_sub hl [1, 2, 0] rfl)
  have K7 : ∀ (n : Nat) (x1 : Int32) (x2 : Int32) (σ : zs_S) (H : Heap) (locs : List Loc) (ls : Array Slot), zf_Parser_find_7 F n x1 x2 σ = some q → zs_I 0 D cA ad A s σ H locs → lv_has ls 3 [(0, .ref (ad 7)), (1, .int x1), (2, .int x2)] → W p l e RR s m args below meth c H locs 0 0 QQ (F0 m 7 ls []) := by
    intro  n
    induction n with
    | zero => intro x1 x2 σ H locs ls hf hw hl; exact nomatch (show (none : Option (Int32 × zs_S)) = some q from hf)
    | succ n ih =>
      intro x1 x2 σ H locs ls hf hw hl
      rw [zf_Parser_find_7] at hf
      refine lv_iload_n hx hb d_Parser_find_7 rfl (lv_at hl 2 rfl) ?_
      refine lv_iload_n hx hb d_Parser_find_8 rfl (lv_at hl 1 rfl) ?_
      refine lv_icmp_lt hx hb d_Parser_find_9 (tgt := 57) rfl (fun hc => ?_) (fun hc => ?_)
      · have hf := (if_pos hc).symm.trans hf
        refine lv_bipush (v := (-2)) hx hb d_Parser_find_57 (by decide) ?_
        exact zr_iret G hw hr hlocks hf hQ d_Parser_find_59
      · have hf := (if_neg hc).symm.trans hf
        refine lv_aload_n hx hb d_Parser_find_12 rfl (lv_at hl 0 rfl) ?_
        obtain ⟨q2, e_q2, h_q2, hf⟩ := zq_qs hf
        refine zr_get (ci := 2) G hw 7 6 zi_2 rfl rfl rfl (by decide) zm_263 (fun _ h => h) (v := .ref (ad q2)) (zs_fr rfl e_q2 h_q2) d_Parser_find_13 ?_
        refine va_gets (C := "ScheduleCheck$Token") (n := "NAME") (d := "LScheduleCheck$Token;") (v := .ref (ad 1002)) hx hb ((G.2.2.2.1 rfl).1.1 2 (by decide)).1 hw.2.2 hown (hts _ zm_275) (fun _ h => h) d_Parser_find_16 ?_
        obtain ⟨hm3, hf⟩ := zq_gs hf
        refine zr_ane G (of_decide_eq_true hm3) (by decide) d_Parser_find_19 (tgt := 51) rfl (fun hc => ?_) (fun hc => ?_)
        · have hf := (if_neg hc).symm.trans hf
          exact K51 (zf_Parser_find_7 F n) ih x1 x2 σ H locs ls hf hw (lv_sub hl [0, 1, 2] rfl)
        · have hf := (if_pos hc).symm.trans hf
          refine lv_aload_n hx hb d_Parser_find_22 rfl (lv_at hl 0 rfl) ?_
          refine zr_get (ci := 2) G hw 7 0 zi_2 rfl rfl rfl (by decide) zm_276 (fun _ h => h) (v := .ref (ad 8)) rfl d_Parser_find_23 ?_
          refine lv_iload_n hx hb d_Parser_find_26 rfl (lv_at hl 2 rfl) ?_
          obtain ⟨hi4, hf⟩ := zq_gs hf
          refine zr_lald G hw 8 rfl rfl hi4 d_Parser_find_27 ?_
          refine lv_aload_n hx hb d_Parser_find_28 rfl (lv_at hl 0 rfl) ?_
          obtain ⟨q5, e_q5, h_q5, hf⟩ := zq_qs hf
          refine zr_get (ci := 2) G hw 7 4 zi_2 rfl rfl rfl (by decide) zm_259 (fun _ h => h) (v := .ref (ad q5)) (zs_fr rfl e_q5 h_q5) d_Parser_find_29 ?_
          obtain ⟨hs6, hf⟩ := zq_gs hf
          have hs6 := zq_ks hs6
          obtain ⟨q7, e_q7, h_q7, hf⟩ := zq_qs hf
          refine zr_get (ci := 1) G hw q5 2 zi_1 hs6 rfl rfl (by decide) zm_277 (fun _ h => h) (v := .ref (ad q7)) (zs_fs rfl e_q7 h_q7) d_Parser_find_32 ?_
          refine lv_aload_n hx hb d_Parser_find_35 rfl (lv_at hl 0 rfl) ?_
          refine zr_get (ci := 2) G hw 7 5 zi_2 rfl rfl rfl (by decide) zm_261 (fun _ h => h) (v := .int (zs_i σ 7 5)) rfl d_Parser_find_36 ?_
          obtain ⟨hs8, hf⟩ := zq_gs hf
          have hs8 := zq_ks hs8
          obtain ⟨hi9, hf⟩ := zq_gs hf
          refine zr_lald G hw q7 hs8 rfl hi9 d_Parser_find_39 ?_
          refine W.lcmp hx hb d_Parser_find_40 ?_
          refine lv_if_ne hx hb d_Parser_find_41 (tgt := 51) rfl (fun hc => ?_) (fun hc => ?_)
          · have hf := (if_neg hc).symm.trans hf
            exact K51 (zf_Parser_find_7 F n) ih x1 x2 σ H locs ls hf hw (lv_sub hl [0, 1, 2] rfl)
          · have hf := (if_pos hc).symm.trans hf
            refine lv_aload_n hx hb d_Parser_find_44 rfl (lv_at hl 0 rfl) ?_
            refine zr_get (ci := 2) G hw 7 1 zi_2 rfl rfl rfl (by decide) zm_278 (fun _ h => h) (v := .ref (ad 9)) rfl d_Parser_find_45 ?_
            refine lv_iload_n hx hb d_Parser_find_48 rfl (lv_at hl 2 rfl) ?_
            obtain ⟨hi10, hf⟩ := zq_gs hf
            refine zr_iald G hw 9 rfl rfl hi10 d_Parser_find_49 ?_
            exact zr_iret G hw hr hlocks hf hQ d_Parser_find_50
  unfold zf_Parser_find at hf
  refine lv_aload_n hx hb d_Parser_find_0 rfl (lv_at hl 0 rfl) ?_
  refine zr_get (ci := 2) G hw 7 2 zi_2 rfl rfl rfl (by decide) zm_274 (fun _ h => h) (v := .int (zs_i σ 7 2)) rfl d_Parser_find_1 ?_
  refine lv_iconst (v := 1) hx hb d_Parser_find_4 (by decide) ?_
  refine lv_isub hx hb d_Parser_find_5 ?_
  refine lv_topi (fun v1 e_v1 => ?_)
  have hf := zq_vs e_v1 hf
  refine lv_istore_n hx hb d_Parser_find_6 rfl hl (by decide) rfl (fun ls hl => ?_)
  have hl : lv_has ls 3 [(2, .int v1), (0, .ref (ad 7)), (1, .int x1)] := hl
  exact K7 F x1 v1 σ H locs ls hf hw (lv_sub hl [1, 2, 0] rfl)
/-! ScheduleCheck$Parser.declare -/
def y_Parser_declare : MethodName := ⟨"ScheduleCheck$Parser","declare","(ZII)Z"⟩
theorem d_Parser_declare_0 : decode prog_6_method_10_code 0 = .ok (.aload_n 0, 1) := by decide +kernel
theorem d_Parser_declare_1 : decode prog_6_method_10_code 1 = .ok (.getfield 33, 3) := by decide +kernel
theorem d_Parser_declare_4 : decode prog_6_method_10_code 4 = .ok (.getstatic 135, 3) := by decide +kernel
theorem d_Parser_declare_7 : decode prog_6_method_10_code 7 = .ok (.if_acmp .ne 15, 3) := by decide +kernel
theorem d_Parser_declare_10 : decode prog_6_method_10_code 10 = .ok (.iload_n 1, 1) := by decide +kernel
theorem d_Parser_declare_11 : decode prog_6_method_10_code 11 = .ok (.ifCond .eq 11, 3) := by decide +kernel
theorem d_Parser_declare_14 : decode prog_6_method_10_code 14 = .ok (.aload_n 0, 1) := by decide +kernel
theorem d_Parser_declare_15 : decode prog_6_method_10_code 15 = .ok (.iload_n 2, 1) := by decide +kernel
theorem d_Parser_declare_16 : decode prog_6_method_10_code 16 = .ok (.invokevirtual 138, 3) := by decide +kernel
theorem d_Parser_declare_19 : decode prog_6_method_10_code 19 = .ok (.ifCond .lt 9, 3) := by decide +kernel
theorem d_Parser_declare_22 : decode prog_6_method_10_code 22 = .ok (.aload_n 0, 1) := by decide +kernel
theorem d_Parser_declare_23 : decode prog_6_method_10_code 23 = .ok (.invokevirtual 66, 3) := by decide +kernel
theorem d_Parser_declare_26 : decode prog_6_method_10_code 26 = .ok (.iconst 0, 1) := by decide +kernel
theorem d_Parser_declare_27 : decode prog_6_method_10_code 27 = .ok (.ireturn, 1) := by decide +kernel
theorem d_Parser_declare_28 : decode prog_6_method_10_code 28 = .ok (.aload_n 0, 1) := by decide +kernel
theorem d_Parser_declare_29 : decode prog_6_method_10_code 29 = .ok (.getfield 9, 3) := by decide +kernel
theorem d_Parser_declare_32 : decode prog_6_method_10_code 32 = .ok (.aload_n 0, 1) := by decide +kernel
theorem d_Parser_declare_33 : decode prog_6_method_10_code 33 = .ok (.getfield 81, 3) := by decide +kernel
theorem d_Parser_declare_36 : decode prog_6_method_10_code 36 = .ok (.aload_n 0, 1) := by decide +kernel
theorem d_Parser_declare_37 : decode prog_6_method_10_code 37 = .ok (.getfield 19, 3) := by decide +kernel
theorem d_Parser_declare_40 : decode prog_6_method_10_code 40 = .ok (.getfield 126, 3) := by decide +kernel
theorem d_Parser_declare_43 : decode prog_6_method_10_code 43 = .ok (.aload_n 0, 1) := by decide +kernel
theorem d_Parser_declare_44 : decode prog_6_method_10_code 44 = .ok (.getfield 23, 3) := by decide +kernel
theorem d_Parser_declare_47 : decode prog_6_method_10_code 47 = .ok (.laload, 1) := by decide +kernel
theorem d_Parser_declare_48 : decode prog_6_method_10_code 48 = .ok (.lastore, 1) := by decide +kernel
theorem d_Parser_declare_49 : decode prog_6_method_10_code 49 = .ok (.aload_n 0, 1) := by decide +kernel
theorem d_Parser_declare_50 : decode prog_6_method_10_code 50 = .ok (.getfield 15, 3) := by decide +kernel
theorem d_Parser_declare_53 : decode prog_6_method_10_code 53 = .ok (.aload_n 0, 1) := by decide +kernel
theorem d_Parser_declare_54 : decode prog_6_method_10_code 54 = .ok (.getfield 81, 3) := by decide +kernel
theorem d_Parser_declare_57 : decode prog_6_method_10_code 57 = .ok (.iload_n 3, 1) := by decide +kernel
theorem d_Parser_declare_58 : decode prog_6_method_10_code 58 = .ok (.iastore, 1) := by decide +kernel
theorem d_Parser_declare_59 : decode prog_6_method_10_code 59 = .ok (.aload_n 0, 1) := by decide +kernel
theorem d_Parser_declare_60 : decode prog_6_method_10_code 60 = .ok (.dup, 1) := by decide +kernel
theorem d_Parser_declare_61 : decode prog_6_method_10_code 61 = .ok (.getfield 81, 3) := by decide +kernel
theorem d_Parser_declare_64 : decode prog_6_method_10_code 64 = .ok (.iconst 1, 1) := by decide +kernel
theorem d_Parser_declare_65 : decode prog_6_method_10_code 65 = .ok (.iadd, 1) := by decide +kernel
theorem d_Parser_declare_66 : decode prog_6_method_10_code 66 = .ok (.putfield 81, 3) := by decide +kernel
theorem d_Parser_declare_69 : decode prog_6_method_10_code 69 = .ok (.aload_n 0, 1) := by decide +kernel
theorem d_Parser_declare_70 : decode prog_6_method_10_code 70 = .ok (.invokevirtual 78, 3) := by decide +kernel
theorem d_Parser_declare_73 : decode prog_6_method_10_code 73 = .ok (.iconst 1, 1) := by decide +kernel
theorem d_Parser_declare_74 : decode prog_6_method_10_code 74 = .ok (.ireturn, 1) := by decide +kernel
def zf_Parser_declare_22 (F : Nat)   (σ : zs_S) : Option (Int32 × zs_S) :=
  zq_d (zf_Parser_fail F σ) fun σ19 =>
  some (0, σ19)
def zf_Parser_declare (F : Nat) (x1 : Int32) (x2 : Int32) (x3 : Int32) (σ : zs_S) : Option (Int32 × zs_S) :=
  zq_q (zs_r σ 7 6) fun q1 =>
  zq_g (decide (q1 < 1200)) <|
  if q1 = 1002 then (
    if x1 = 0 then (
      zf_Parser_declare_22 F σ
    ) else (
      zq_c (zf_Parser_find F x2 σ) fun r4 σ3 =>
      if r4 < 0 then (
        zq_q (zs_r σ3 7 4) fun q6 =>
        zq_g (zq_k 0 q6 11) <|
        zq_q (zd_rf 0 q6 2) fun q8 =>
        zq_g (zq_k 0 q8 3) <|
        zq_g (zq_b (zs_i σ3 7 5) (zd_sh 0 q8).2) <|
        zq_g (zq_b (zs_i σ3 7 2) 15) <|
        zq_v (zs_wl σ3 8 ((zs_i σ3 7 2).toNatClampNeg) (zs_l σ3 q8 (zs_i σ3 7 5).toNatClampNeg)) fun σ12 =>
        zq_g (zq_b (zs_i σ12 7 2) 15) <|
        zq_v (zs_wi σ12 9 ((zs_i σ12 7 2).toNatClampNeg) x3) fun σ14 =>
        zq_v (zs_wi σ14 7 2 ((zs_i σ14 7 2) + 1)) fun σ15 =>
        zq_d (zf_Parser_advance F σ15) fun σ16 =>
        some (1, σ16)
      ) else (
        zf_Parser_declare_22 F σ3
      )
    )
  ) else (
    zf_Parser_declare_22 F σ
  )
set_option maxHeartbeats 4000000 in
set_option maxRecDepth 100000 in
theorem zc_Parser_declare {l : Launch} {D : va_G} {cA : Nat → ClassId} {ad : Nat → Nat} {A : Nat → Prop} {F : Nat} {x1 : Int32} {x2 : Int32} {x3 : Int32} {σ : zs_S} {q : Int32 × zs_S} (hJ : zs_J ad) (hf : zf_Parser_declare F x1 x2 x3 σ = some q) : Met l y_Parser_declare (.code y_Parser_declare prog_6_method_10_code 4 (some .boolean) :: zd_ww) { frames := 1, cells := 0, slots := 0, locals := 22 } (va_Pc [.ref (ad 7), .int x1, .int x2, .int x3] (zs_U 0 D cA ad A σ)) (zs_Qi 0 D cA ad A q) 0 0 A := by
  refine Met.ofW (cc := prog_6_method_10_code) (maxL := 4) (ret := (some .boolean)) (by decide) rfl ?_
  intro p e s m args below meth c s₁ B hml hv
  obtain ⟨hargs, hP, hK, hD, hZ⟩ := hv
  have G : zs_G 0 p s m args c prog_6_method_10_code 4 "ScheduleCheck$Parser" D cA ad A := ⟨⟨B.exec, B.bytes, hml, findClass_of_methodNamed B.named, fun w h => atoms_spec B.pre w (List.mem_cons_of_mem _ h)⟩, hK, hJ, hZ⟩
  have hw : zs_I 0 D cA ad A s σ s.heap [] := ⟨hP, hD, va_S.rf⟩
  have hx := G.1.1
  have hb := G.1.2.1
  have hown := G.1.2.2.2.1
  have hts := G.1.2.2.2.2
  have hr := B.returns
  have hlocks := B.notSynchronized
  have he : entryFrame m args 4 = F0 m 0 ((lg_sl [.ref (ad 7), .int x1, .int x2, .int x3] ++ List.replicate (4 - (lg_sl [.ref (ad 7), .int x1, .int x2, .int x3]).length) Slot.unset).toArray) [] := by rw [hargs]; exact lg_entry_eq m _ 4
  have hl := lv_entry [.ref (ad 7), .int x1, .int x2, .int x3] (n := 4) (Nat.le_of_ble_eq_true rfl)
  rw [he]
  generalize (lg_sl [.ref (ad 7), .int x1, .int x2, .int x3] ++ List.replicate (4 - (lg_sl [.ref (ad 7), .int x1, .int x2, .int x3]).length) Slot.unset).toArray = ls at hl
  have hl : lv_has ls 4 [(0, .ref (ad 7)), (1, .int x1), (2, .int x2), (3, .int x3)] := hl
  obtain ⟨RR, hR⟩ : ∃ z, z = (headSpec (.code y_Parser_declare prog_6_method_10_code 4 (some .boolean) :: zd_ww) { frames := 1, cells := 0, slots := 0, locals := 22 }).room := ⟨_, rfl⟩
  rw [← hR]
  obtain ⟨QQ, hQ⟩ : ∃ z, z = MQ below (zs_Qi 0 D cA ad A q) args s 0 0 A := ⟨_, rfl⟩
  rw [← hQ]
  have hR1 : 1 ≤ RR.frames := by rw [hR]; exact Nat.le_refl _
  have hR2 : 22 ≤ RR.locals := by rw [hR]; exact Nat.le_refl _
  generalize s.heap = H at hw ⊢
  generalize ([] : List Loc) = locs at hw ⊢
  have K22 : ∀ (σ : zs_S) (H : Heap) (locs : List Loc) (ls : Array Slot), zf_Parser_declare_22 F σ = some q → zs_I 0 D cA ad A s σ H locs → lv_has ls 4 [(0, .ref (ad 7))] → W p l e RR s m args below meth c H locs 0 0 QQ (F0 m 22 ls []) := by
    intro   σ H locs ls hf hw hl
    unfold zf_Parser_declare_22 at hf
    refine lv_aload_n hx hb d_Parser_declare_22 rfl (lv_at hl 0 rfl) ?_
    obtain ⟨σ19, hc21, hf⟩ := zq_ds hf
    refine zr_cv hw (zr_runV (rest := []) (ci := 2) (o := 7) G hw [] (zc_Parser_fail hJ hc21) (cwV 0 hts (zs_gV zm_266 zm_267 zm_268 zm_269 zm_265) rfl rfl rfl (by decide +kernel) ⟨Nat.le_trans (by decide) hR1, Nat.le_trans (by decide) hR2⟩) rfl rfl rfl hl.1 (Nat.le_of_ble_eq_true rfl) d_Parser_declare_23 ⟨Nat.zero_le _, Nat.zero_le _⟩) (fun H locs hw => ?_)
    refine lv_iconst (v := 0) hx hb d_Parser_declare_26 (by decide) ?_
    exact zr_zret G hw hr hlocks (by decide) hf hQ d_Parser_declare_27
  unfold zf_Parser_declare at hf
  refine lv_aload_n hx hb d_Parser_declare_0 rfl (lv_at hl 0 rfl) ?_
  obtain ⟨q1, e_q1, h_q1, hf⟩ := zq_qs hf
  refine zr_get (ci := 2) G hw 7 6 zi_2 rfl rfl rfl (by decide) zm_263 (fun _ h => h) (v := .ref (ad q1)) (zs_fr rfl e_q1 h_q1) d_Parser_declare_1 ?_
  refine va_gets (C := "ScheduleCheck$Token") (n := "NAME") (d := "LScheduleCheck$Token;") (v := .ref (ad 1002)) hx hb ((G.2.2.2.1 rfl).1.1 2 (by decide)).1 hw.2.2 hown (hts _ zm_275) (fun _ h => h) d_Parser_declare_4 ?_
  obtain ⟨hm2, hf⟩ := zq_gs hf
  refine zr_ane G (of_decide_eq_true hm2) (by decide) d_Parser_declare_7 (tgt := 22) rfl (fun hc => ?_) (fun hc => ?_)
  · have hf := (if_neg hc).symm.trans hf
    exact K22 σ H locs ls hf hw (lv_sub hl [0] rfl)
  · have hf := (if_pos hc).symm.trans hf
    refine lv_iload_n hx hb d_Parser_declare_10 rfl (lv_at hl 1 rfl) ?_
    refine lv_if_eq hx hb d_Parser_declare_11 (tgt := 22) rfl (fun hc => ?_) (fun hc => ?_)
    · have hf := (if_pos hc).symm.trans hf
      exact K22 σ H locs ls hf hw (lv_sub hl [0] rfl)
    · have hf := (if_neg hc).symm.trans hf
      refine lv_aload_n hx hb d_Parser_declare_14 rfl (lv_at hl 0 rfl) ?_
      refine lv_iload_n hx hb d_Parser_declare_15 rfl (lv_at hl 2 rfl) ?_
      obtain ⟨r4, σ3, hc5, hf⟩ := zq_cs hf
      refine zr_ci hw (zr_runV (rest := []) (ci := 2) (o := 7) G hw [.int x2] (zc_Parser_find hJ hc5) (cwV 1 hts (zs_gV zm_280 zm_281 zm_282 zm_269 zm_279) rfl rfl rfl (by decide +kernel) ⟨Nat.le_trans (by decide) hR1, Nat.le_trans (by decide) hR2⟩) rfl rfl rfl hl.1 (Nat.le_of_ble_eq_true rfl) d_Parser_declare_16 ⟨Nat.zero_le _, Nat.zero_le _⟩) (fun H locs hw => ?_)
      refine lv_if_lt hx hb d_Parser_declare_19 (tgt := 28) rfl (fun hc => ?_) (fun hc => ?_)
      · have hf := (if_pos hc).symm.trans hf
        refine lv_aload_n hx hb d_Parser_declare_28 rfl (lv_at hl 0 rfl) ?_
        refine zr_get (ci := 2) G hw 7 0 zi_2 rfl rfl rfl (by decide) zm_276 (fun _ h => h) (v := .ref (ad 8)) rfl d_Parser_declare_29 ?_
        refine lv_aload_n hx hb d_Parser_declare_32 rfl (lv_at hl 0 rfl) ?_
        refine zr_get (ci := 2) G hw 7 2 zi_2 rfl rfl rfl (by decide) zm_274 (fun _ h => h) (v := .int (zs_i σ3 7 2)) rfl d_Parser_declare_33 ?_
        refine lv_aload_n hx hb d_Parser_declare_36 rfl (lv_at hl 0 rfl) ?_
        obtain ⟨q6, e_q6, h_q6, hf⟩ := zq_qs hf
        refine zr_get (ci := 2) G hw 7 4 zi_2 rfl rfl rfl (by decide) zm_259 (fun _ h => h) (v := .ref (ad q6)) (zs_fr rfl e_q6 h_q6) d_Parser_declare_37 ?_
        obtain ⟨hs7, hf⟩ := zq_gs hf
        have hs7 := zq_ks hs7
        obtain ⟨q8, e_q8, h_q8, hf⟩ := zq_qs hf
        refine zr_get (ci := 1) G hw q6 2 zi_1 hs7 rfl rfl (by decide) zm_277 (fun _ h => h) (v := .ref (ad q8)) (zs_fs rfl e_q8 h_q8) d_Parser_declare_40 ?_
        refine lv_aload_n hx hb d_Parser_declare_43 rfl (lv_at hl 0 rfl) ?_
        refine zr_get (ci := 2) G hw 7 5 zi_2 rfl rfl rfl (by decide) zm_261 (fun _ h => h) (v := .int (zs_i σ3 7 5)) rfl d_Parser_declare_44 ?_
        obtain ⟨hs9, hf⟩ := zq_gs hf
        have hs9 := zq_ks hs9
        obtain ⟨hi10, hf⟩ := zq_gs hf
        refine zr_lald G hw q8 hs9 rfl hi10 d_Parser_declare_47 ?_
        obtain ⟨hi11, hf⟩ := zq_gs hf
        obtain ⟨σ12, e_σ12, hf⟩ := zq_ss hf
        refine zr_last G hw 8 rfl rfl  hi11  d_Parser_declare_48 (fun H locs hw => ?_)
        rw [← e_σ12] at hw
        refine lv_aload_n hx hb d_Parser_declare_49 rfl (lv_at hl 0 rfl) ?_
        refine zr_get (ci := 2) G hw 7 1 zi_2 rfl rfl rfl (by decide) zm_278 (fun _ h => h) (v := .ref (ad 9)) rfl d_Parser_declare_50 ?_
        refine lv_aload_n hx hb d_Parser_declare_53 rfl (lv_at hl 0 rfl) ?_
        refine zr_get (ci := 2) G hw 7 2 zi_2 rfl rfl rfl (by decide) zm_274 (fun _ h => h) (v := .int (zs_i σ12 7 2)) rfl d_Parser_declare_54 ?_
        refine lv_iload_n hx hb d_Parser_declare_57 rfl (lv_at hl 3 rfl) ?_
        obtain ⟨hi13, hf⟩ := zq_gs hf
        obtain ⟨σ14, e_σ14, hf⟩ := zq_ss hf
        refine zr_iast G hw 9 rfl rfl  hi13  d_Parser_declare_58 (fun H locs hw => ?_)
        rw [← e_σ14] at hw
        refine lv_aload_n hx hb d_Parser_declare_59 rfl (lv_at hl 0 rfl) ?_
        refine lv_dup hx hb d_Parser_declare_60 rfl ?_
        refine zr_get (ci := 2) G hw 7 2 zi_2 rfl rfl rfl (by decide) zm_274 (fun _ h => h) (v := .int (zs_i σ14 7 2)) rfl d_Parser_declare_61 ?_
        refine lv_iconst (v := 1) hx hb d_Parser_declare_64 (by decide) ?_
        refine lv_iadd hx hb d_Parser_declare_65 ?_
        obtain ⟨σ15, e_σ15, hf⟩ := zq_ss hf
        refine zr_puti (ci := 2) G hw 7 2 zi_2 t_zd2 t_zd2_ok n_zd2 rfl rfl rfl (by decide) rfl zm_274 (fun _ h => h) rfl (x := ((zs_i σ14 7 2) + 1)) (t_zd2_ok 2 (by decide)) rfl rfl d_Parser_declare_66 (fun H locs hw => ?_)
        rw [← e_σ15] at hw
        refine lv_aload_n hx hb d_Parser_declare_69 rfl (lv_at hl 0 rfl) ?_
        obtain ⟨σ16, hc18, hf⟩ := zq_ds hf
        refine zr_cv hw (zr_runV (rest := []) (ci := 2) (o := 7) G hw [] (zc_Parser_advance hJ hc18) (cwV 0 hts (zs_gV zm_271 zm_272 zm_273 zm_269 zm_270) rfl rfl rfl (by decide +kernel) ⟨Nat.le_trans (by decide) hR1, Nat.le_trans (by decide) hR2⟩) rfl rfl rfl hl.1 (Nat.le_of_ble_eq_true rfl) d_Parser_declare_70 ⟨Nat.zero_le _, Nat.zero_le _⟩) (fun H locs hw => ?_)
        refine lv_iconst (v := 1) hx hb d_Parser_declare_73 (by decide) ?_
        exact zr_zret G hw hr hlocks (by decide) hf hQ d_Parser_declare_74
      · have hf := (if_neg hc).symm.trans hf
        exact K22 σ3 H locs ls hf hw (lv_sub hl [0] rfl)
/-! ScheduleCheck$Parser.readFirstValue -/
def y_Parser_readFirstValue : MethodName := ⟨"ScheduleCheck$Parser","readFirstValue","()I"⟩
theorem d_Parser_readFirstValue_0 : decode prog_6_method_8_code 0 = .ok (.aload_n 0, 1) := by decide +kernel
theorem d_Parser_readFirstValue_1 : decode prog_6_method_8_code 1 = .ok (.getfield 33, 3) := by decide +kernel
theorem d_Parser_readFirstValue_4 : decode prog_6_method_8_code 4 = .ok (.getstatic 120, 3) := by decide +kernel
theorem d_Parser_readFirstValue_7 : decode prog_6_method_8_code 7 = .ok (.if_acmp .eq 5, 3) := by decide +kernel
theorem d_Parser_readFirstValue_10 : decode prog_6_method_8_code 10 = .ok (.iconst 0, 1) := by decide +kernel
theorem d_Parser_readFirstValue_11 : decode prog_6_method_8_code 11 = .ok (.ireturn, 1) := by decide +kernel
theorem d_Parser_readFirstValue_12 : decode prog_6_method_8_code 12 = .ok (.aload_n 0, 1) := by decide +kernel
theorem d_Parser_readFirstValue_13 : decode prog_6_method_8_code 13 = .ok (.invokevirtual 78, 3) := by decide +kernel
theorem d_Parser_readFirstValue_16 : decode prog_6_method_8_code 16 = .ok (.aload_n 0, 1) := by decide +kernel
theorem d_Parser_readFirstValue_17 : decode prog_6_method_8_code 17 = .ok (.getfield 33, 3) := by decide +kernel
theorem d_Parser_readFirstValue_20 : decode prog_6_method_8_code 20 = .ok (.getstatic 123, 3) := by decide +kernel
theorem d_Parser_readFirstValue_23 : decode prog_6_method_8_code 23 = .ok (.if_acmp .ne 7, 3) := by decide +kernel
theorem d_Parser_readFirstValue_26 : decode prog_6_method_8_code 26 = .ok (.iconst 1, 1) := by decide +kernel
theorem d_Parser_readFirstValue_27 : decode prog_6_method_8_code 27 = .ok (.goto 4, 3) := by decide +kernel
theorem d_Parser_readFirstValue_30 : decode prog_6_method_8_code 30 = .ok (.iconst 0, 1) := by decide +kernel
theorem d_Parser_readFirstValue_31 : decode prog_6_method_8_code 31 = .ok (.istore_n 1, 1) := by decide +kernel
theorem d_Parser_readFirstValue_32 : decode prog_6_method_8_code 32 = .ok (.iload_n 1, 1) := by decide +kernel
theorem d_Parser_readFirstValue_33 : decode prog_6_method_8_code 33 = .ok (.ifCond .eq 7, 3) := by decide +kernel
theorem d_Parser_readFirstValue_36 : decode prog_6_method_8_code 36 = .ok (.aload_n 0, 1) := by decide +kernel
theorem d_Parser_readFirstValue_37 : decode prog_6_method_8_code 37 = .ok (.invokevirtual 78, 3) := by decide +kernel
theorem d_Parser_readFirstValue_40 : decode prog_6_method_8_code 40 = .ok (.aload_n 0, 1) := by decide +kernel
theorem d_Parser_readFirstValue_41 : decode prog_6_method_8_code 41 = .ok (.getfield 19, 3) := by decide +kernel
theorem d_Parser_readFirstValue_44 : decode prog_6_method_8_code 44 = .ok (.getfield 126, 3) := by decide +kernel
theorem d_Parser_readFirstValue_47 : decode prog_6_method_8_code 47 = .ok (.aload_n 0, 1) := by decide +kernel
theorem d_Parser_readFirstValue_48 : decode prog_6_method_8_code 48 = .ok (.getfield 23, 3) := by decide +kernel
theorem d_Parser_readFirstValue_51 : decode prog_6_method_8_code 51 = .ok (.laload, 1) := by decide +kernel
theorem d_Parser_readFirstValue_52 : decode prog_6_method_8_code 52 = .ok (.l2i, 1) := by decide +kernel
theorem d_Parser_readFirstValue_53 : decode prog_6_method_8_code 53 = .ok (.istore_n 2, 1) := by decide +kernel
theorem d_Parser_readFirstValue_54 : decode prog_6_method_8_code 54 = .ok (.aload_n 0, 1) := by decide +kernel
theorem d_Parser_readFirstValue_55 : decode prog_6_method_8_code 55 = .ok (.getstatic 129, 3) := by decide +kernel
theorem d_Parser_readFirstValue_58 : decode prog_6_method_8_code 58 = .ok (.invokevirtual 116, 3) := by decide +kernel
theorem d_Parser_readFirstValue_61 : decode prog_6_method_8_code 61 = .ok (.iload_n 1, 1) := by decide +kernel
theorem d_Parser_readFirstValue_62 : decode prog_6_method_8_code 62 = .ok (.ifCond .eq 8, 3) := by decide +kernel
theorem d_Parser_readFirstValue_65 : decode prog_6_method_8_code 65 = .ok (.iload_n 2, 1) := by decide +kernel
theorem d_Parser_readFirstValue_66 : decode prog_6_method_8_code 66 = .ok (.ineg, 1) := by decide +kernel
theorem d_Parser_readFirstValue_67 : decode prog_6_method_8_code 67 = .ok (.goto 4, 3) := by decide +kernel
theorem d_Parser_readFirstValue_70 : decode prog_6_method_8_code 70 = .ok (.iload_n 2, 1) := by decide +kernel
theorem d_Parser_readFirstValue_71 : decode prog_6_method_8_code 71 = .ok (.ireturn, 1) := by decide +kernel
def zf_Parser_readFirstValue_71 (F : Nat)  (t0 : Int32) (σ : zs_S) : Option (Int32 × zs_S) :=
  some (t0, σ)
def zf_Parser_readFirstValue_40 (F : Nat)  (x1 : Int32) (σ : zs_S) : Option (Int32 × zs_S) :=
  zq_q (zs_r σ 7 4) fun q11 =>
  zq_g (zq_k 0 q11 11) <|
  zq_q (zd_rf 0 q11 2) fun q13 =>
  zq_g (zq_k 0 q13 3) <|
  zq_g (zq_b (zs_i σ 7 5) (zd_sh 0 q13).2) <|
  zq_v (((zs_l σ q13 (zs_i σ 7 5).toNatClampNeg : Int64)).toInt32) fun v16 =>
  zq_d (zf_Parser_expect F 1003 σ) fun σ17 =>
  if x1 = 0 then (
    zf_Parser_readFirstValue_71 F v16 σ17
  ) else (
    zf_Parser_readFirstValue_71 F (-v16) σ17
  )
def zf_Parser_readFirstValue_31 (F : Nat)  (t0 : Int32) (σ : zs_S) : Option (Int32 × zs_S) :=
  if t0 = 0 then (
    zf_Parser_readFirstValue_40 F t0 σ
  ) else (
    zq_d (zf_Parser_advance F σ) fun σ8 =>
    zf_Parser_readFirstValue_40 F t0 σ8
  )
def zf_Parser_readFirstValue (F : Nat)  (σ : zs_S) : Option (Int32 × zs_S) :=
  zq_q (zs_r σ 7 6) fun q1 =>
  zq_g (decide (q1 < 1200)) <|
  if q1 = 1024 then (
    zq_d (zf_Parser_advance F σ) fun σ3 =>
    zq_q (zs_r σ3 7 6) fun q6 =>
    zq_g (decide (q6 < 1200)) <|
    if q6 = 1035 then (
      zf_Parser_readFirstValue_31 F 1 σ3
    ) else (
      zf_Parser_readFirstValue_31 F 0 σ3
    )
  ) else (
    some (0, σ)
  )
set_option maxHeartbeats 4000000 in
set_option maxRecDepth 100000 in
theorem zc_Parser_readFirstValue {l : Launch} {D : va_G} {cA : Nat → ClassId} {ad : Nat → Nat} {A : Nat → Prop} {F : Nat}  {σ : zs_S} {q : Int32 × zs_S} (hJ : zs_J ad) (hf : zf_Parser_readFirstValue F  σ = some q) : Met l y_Parser_readFirstValue (.code y_Parser_readFirstValue prog_6_method_8_code 3 (some .int) :: zd_ww) { frames := 2, cells := 0, slots := 0, locals := 41 } (va_Pc [.ref (ad 7)] (zs_U 0 D cA ad A σ)) (zs_Qi 0 D cA ad A q) 0 0 A := by
  refine Met.ofW (cc := prog_6_method_8_code) (maxL := 3) (ret := (some .int)) (by decide) rfl ?_
  intro p e s m args below meth c s₁ B hml hv
  obtain ⟨hargs, hP, hK, hD, hZ⟩ := hv
  have G : zs_G 0 p s m args c prog_6_method_8_code 3 "ScheduleCheck$Parser" D cA ad A := ⟨⟨B.exec, B.bytes, hml, findClass_of_methodNamed B.named, fun w h => atoms_spec B.pre w (List.mem_cons_of_mem _ h)⟩, hK, hJ, hZ⟩
  have hw : zs_I 0 D cA ad A s σ s.heap [] := ⟨hP, hD, va_S.rf⟩
  have hx := G.1.1
  have hb := G.1.2.1
  have hown := G.1.2.2.2.1
  have hts := G.1.2.2.2.2
  have hr := B.returns
  have hlocks := B.notSynchronized
  have he : entryFrame m args 3 = F0 m 0 ((lg_sl [.ref (ad 7)] ++ List.replicate (3 - (lg_sl [.ref (ad 7)]).length) Slot.unset).toArray) [] := by rw [hargs]; exact lg_entry_eq m _ 3
  have hl := lv_entry [.ref (ad 7)] (n := 3) (Nat.le_of_ble_eq_true rfl)
  rw [he]
  generalize (lg_sl [.ref (ad 7)] ++ List.replicate (3 - (lg_sl [.ref (ad 7)]).length) Slot.unset).toArray = ls at hl
  have hl : lv_has ls 3 [(0, .ref (ad 7))] := hl
  obtain ⟨RR, hR⟩ : ∃ z, z = (headSpec (.code y_Parser_readFirstValue prog_6_method_8_code 3 (some .int) :: zd_ww) { frames := 2, cells := 0, slots := 0, locals := 41 }).room := ⟨_, rfl⟩
  rw [← hR]
  obtain ⟨QQ, hQ⟩ : ∃ z, z = MQ below (zs_Qi 0 D cA ad A q) args s 0 0 A := ⟨_, rfl⟩
  rw [← hQ]
  have hR1 : 2 ≤ RR.frames := by rw [hR]; exact Nat.le_refl _
  have hR2 : 41 ≤ RR.locals := by rw [hR]; exact Nat.le_refl _
  generalize s.heap = H at hw ⊢
  generalize ([] : List Loc) = locs at hw ⊢
  have K71 : ∀ (t0 : Int32) (σ : zs_S) (H : Heap) (locs : List Loc) (ls : Array Slot), zf_Parser_readFirstValue_71 F t0 σ = some q → zs_I 0 D cA ad A s σ H locs → lv_has ls 3 [] → W p l e RR s m args below meth c H locs 0 0 QQ (F0 m 71 ls [.int t0]) := by
    intro  t0 σ H locs ls hf hw hl
    unfold zf_Parser_readFirstValue_71 at hf
    exact zr_iret G hw hr hlocks hf hQ d_Parser_readFirstValue_71
  have K40 : ∀ (x1 : Int32) (σ : zs_S) (H : Heap) (locs : List Loc) (ls : Array Slot), zf_Parser_readFirstValue_40 F x1 σ = some q → zs_I 0 D cA ad A s σ H locs → lv_has ls 3 [(0, .ref (ad 7)), (1, .int x1)] → W p l e RR s m args below meth c H locs 0 0 QQ (F0 m 40 ls []) := by
    intro  x1 σ H locs ls hf hw hl
    unfold zf_Parser_readFirstValue_40 at hf
    refine lv_aload_n hx hb d_Parser_readFirstValue_40 rfl (lv_at hl 0 rfl) ?_
    obtain ⟨q11, e_q11, h_q11, hf⟩ := zq_qs hf
    refine zr_get (ci := 2) G hw 7 4 zi_2 rfl rfl rfl (by decide) zm_259 (fun _ h => h) (v := .ref (ad q11)) (zs_fr rfl e_q11 h_q11) d_Parser_readFirstValue_41 ?_
    obtain ⟨hs12, hf⟩ := zq_gs hf
    have hs12 := zq_ks hs12
    obtain ⟨q13, e_q13, h_q13, hf⟩ := zq_qs hf
    refine zr_get (ci := 1) G hw q11 2 zi_1 hs12 rfl rfl (by decide) zm_277 (fun _ h => h) (v := .ref (ad q13)) (zs_fs rfl e_q13 h_q13) d_Parser_readFirstValue_44 ?_
    refine lv_aload_n hx hb d_Parser_readFirstValue_47 rfl (lv_at hl 0 rfl) ?_
    refine zr_get (ci := 2) G hw 7 5 zi_2 rfl rfl rfl (by decide) zm_261 (fun _ h => h) (v := .int (zs_i σ 7 5)) rfl d_Parser_readFirstValue_48 ?_
    obtain ⟨hs14, hf⟩ := zq_gs hf
    have hs14 := zq_ks hs14
    obtain ⟨hi15, hf⟩ := zq_gs hf
    refine zr_lald G hw q13 hs14 rfl hi15 d_Parser_readFirstValue_51 ?_
    refine lv_l2i hx hb d_Parser_readFirstValue_52 rfl ?_
    refine lv_topi (fun v16 e_v16 => ?_)
    have hf := zq_vs e_v16 hf
    refine lv_istore_n hx hb d_Parser_readFirstValue_53 rfl hl (by decide) rfl (fun ls hl => ?_)
    have hl : lv_has ls 3 [(2, .int v16), (0, .ref (ad 7)), (1, .int x1)] := hl
    refine lv_aload_n hx hb d_Parser_readFirstValue_54 rfl (lv_at hl 1 rfl) ?_
    refine va_gets (C := "ScheduleCheck$Token") (n := "NUMBER") (d := "LScheduleCheck$Token;") (v := .ref (ad 1003)) hx hb ((G.2.2.2.1 rfl).1.1 3 (by decide)).1 hw.2.2 hown (hts _ zm_285) (fun _ h => h) d_Parser_readFirstValue_55 ?_
    obtain ⟨σ17, hc19, hf⟩ := zq_ds hf
    refine zr_cv hw (zr_runV (rest := []) (ci := 2) (o := 7) G hw [.ref (ad 1003)] (zc_Parser_expect hJ hc19) (cwV 1 hts (zs_gV zm_287 zm_288 zm_289 zm_269 zm_286) rfl rfl rfl (by decide +kernel) ⟨Nat.le_trans (by decide) hR1, Nat.le_trans (by decide) hR2⟩) rfl rfl rfl hl.1 (Nat.le_of_ble_eq_true rfl) d_Parser_readFirstValue_58 ⟨Nat.zero_le _, Nat.zero_le _⟩) (fun H locs hw => ?_)
    refine lv_iload_n hx hb d_Parser_readFirstValue_61 rfl (lv_at hl 2 rfl) ?_
    refine lv_if_eq hx hb d_Parser_readFirstValue_62 (tgt := 70) rfl (fun hc => ?_) (fun hc => ?_)
    · have hf := (if_pos hc).symm.trans hf
      refine lv_iload_n hx hb d_Parser_readFirstValue_70 rfl (lv_at hl 0 rfl) ?_
      exact K71 v16 σ17 H locs ls hf hw (lv_sub hl [] rfl)
    · have hf := (if_neg hc).symm.trans hf
      refine lv_iload_n hx hb d_Parser_readFirstValue_65 rfl (lv_at hl 0 rfl) ?_
      refine lv_ineg hx hb d_Parser_readFirstValue_66 ?_
      refine lv_goto hx hb d_Parser_readFirstValue_67 (tgt := 71) rfl ?_
      exact K71 (-v16) σ17 H locs ls hf hw (lv_sub hl [] rfl)
  have K31 : ∀ (t0 : Int32) (σ : zs_S) (H : Heap) (locs : List Loc) (ls : Array Slot), zf_Parser_readFirstValue_31 F t0 σ = some q → zs_I 0 D cA ad A s σ H locs → lv_has ls 3 [(0, .ref (ad 7))] → W p l e RR s m args below meth c H locs 0 0 QQ (F0 m 31 ls [.int t0]) := by
    intro  t0 σ H locs ls hf hw hl
    unfold zf_Parser_readFirstValue_31 at hf
    refine lv_istore_n hx hb d_Parser_readFirstValue_31 rfl hl (by decide) rfl (fun ls hl => ?_)
    have hl : lv_has ls 3 [(1, .int t0), (0, .ref (ad 7))] := hl
    refine lv_iload_n hx hb d_Parser_readFirstValue_32 rfl (lv_at hl 0 rfl) ?_
    refine lv_if_eq hx hb d_Parser_readFirstValue_33 (tgt := 40) rfl (fun hc => ?_) (fun hc => ?_)
    · have hf := (if_pos hc).symm.trans hf
      exact K40 t0 σ H locs ls hf hw (lv_sub hl [1, 0] rfl)
    · have hf := (if_neg hc).symm.trans hf
      refine lv_aload_n hx hb d_Parser_readFirstValue_36 rfl (lv_at hl 1 rfl) ?_
      obtain ⟨σ8, hc10, hf⟩ := zq_ds hf
      refine zr_cv hw (zr_runV (rest := []) (ci := 2) (o := 7) G hw [] (zc_Parser_advance hJ hc10) (cwV 0 hts (zs_gV zm_271 zm_272 zm_273 zm_269 zm_270) rfl rfl rfl (by decide +kernel) ⟨Nat.le_trans (by decide) hR1, Nat.le_trans (by decide) hR2⟩) rfl rfl rfl hl.1 (Nat.le_of_ble_eq_true rfl) d_Parser_readFirstValue_37 ⟨Nat.zero_le _, Nat.zero_le _⟩) (fun H locs hw => ?_)
      exact K40 t0 σ8 H locs ls hf hw (lv_sub hl [1, 0] rfl)
  unfold zf_Parser_readFirstValue at hf
  refine lv_aload_n hx hb d_Parser_readFirstValue_0 rfl (lv_at hl 0 rfl) ?_
  obtain ⟨q1, e_q1, h_q1, hf⟩ := zq_qs hf
  refine zr_get (ci := 2) G hw 7 6 zi_2 rfl rfl rfl (by decide) zm_263 (fun _ h => h) (v := .ref (ad q1)) (zs_fr rfl e_q1 h_q1) d_Parser_readFirstValue_1 ?_
  refine va_gets (C := "ScheduleCheck$Token") (n := "GETS") (d := "LScheduleCheck$Token;") (v := .ref (ad 1024)) hx hb ((G.2.2.2.1 rfl).1.1 24 (by decide)).1 hw.2.2 hown (hts _ zm_283) (fun _ h => h) d_Parser_readFirstValue_4 ?_
  obtain ⟨hm2, hf⟩ := zq_gs hf
  refine zr_aeq G (of_decide_eq_true hm2) (by decide) d_Parser_readFirstValue_7 (tgt := 12) rfl (fun hc => ?_) (fun hc => ?_)
  · have hf := (if_pos hc).symm.trans hf
    refine lv_aload_n hx hb d_Parser_readFirstValue_12 rfl (lv_at hl 0 rfl) ?_
    obtain ⟨σ3, hc5, hf⟩ := zq_ds hf
    refine zr_cv hw (zr_runV (rest := []) (ci := 2) (o := 7) G hw [] (zc_Parser_advance hJ hc5) (cwV 0 hts (zs_gV zm_271 zm_272 zm_273 zm_269 zm_270) rfl rfl rfl (by decide +kernel) ⟨Nat.le_trans (by decide) hR1, Nat.le_trans (by decide) hR2⟩) rfl rfl rfl hl.1 (Nat.le_of_ble_eq_true rfl) d_Parser_readFirstValue_13 ⟨Nat.zero_le _, Nat.zero_le _⟩) (fun H locs hw => ?_)
    refine lv_aload_n hx hb d_Parser_readFirstValue_16 rfl (lv_at hl 0 rfl) ?_
    obtain ⟨q6, e_q6, h_q6, hf⟩ := zq_qs hf
    refine zr_get (ci := 2) G hw 7 6 zi_2 rfl rfl rfl (by decide) zm_263 (fun _ h => h) (v := .ref (ad q6)) (zs_fr rfl e_q6 h_q6) d_Parser_readFirstValue_17 ?_
    refine va_gets (C := "ScheduleCheck$Token") (n := "MINUS") (d := "LScheduleCheck$Token;") (v := .ref (ad 1035)) hx hb ((G.2.2.2.1 rfl).1.1 35 (by decide)).1 hw.2.2 hown (hts _ zm_284) (fun _ h => h) d_Parser_readFirstValue_20 ?_
    obtain ⟨hm7, hf⟩ := zq_gs hf
    refine zr_ane G (of_decide_eq_true hm7) (by decide) d_Parser_readFirstValue_23 (tgt := 30) rfl (fun hc => ?_) (fun hc => ?_)
    · have hf := (if_neg hc).symm.trans hf
      refine lv_iconst (v := 0) hx hb d_Parser_readFirstValue_30 (by decide) ?_
      exact K31 0 σ3 H locs ls hf hw (lv_sub hl [0] rfl)
    · have hf := (if_pos hc).symm.trans hf
      refine lv_iconst (v := 1) hx hb d_Parser_readFirstValue_26 (by decide) ?_
      refine lv_goto hx hb d_Parser_readFirstValue_27 (tgt := 31) rfl ?_
      exact K31 1 σ3 H locs ls hf hw (lv_sub hl [0] rfl)
  · have hf := (if_neg hc).symm.trans hf
    refine lv_iconst (v := 0) hx hb d_Parser_readFirstValue_10 (by decide) ?_
    exact zr_iret G hw hr hlocks hf hQ d_Parser_readFirstValue_11
/-! ScheduleCheck$Parser.readVariable -/
def y_Parser_readVariable : MethodName := ⟨"ScheduleCheck$Parser","readVariable","()V"⟩
theorem d_Parser_readVariable_0 : decode prog_6_method_7_code 0 = .ok (.aload_n 0, 1) := by decide +kernel
theorem d_Parser_readVariable_1 : decode prog_6_method_7_code 1 = .ok (.getfield 37, 3) := by decide +kernel
theorem d_Parser_readVariable_4 : decode prog_6_method_7_code 4 = .ok (.getfield 99, 3) := by decide +kernel
theorem d_Parser_readVariable_7 : decode prog_6_method_7_code 7 = .ok (.istore_n 1, 1) := by decide +kernel
theorem d_Parser_readVariable_8 : decode prog_6_method_7_code 8 = .ok (.aload_n 0, 1) := by decide +kernel
theorem d_Parser_readVariable_9 : decode prog_6_method_7_code 9 = .ok (.invokevirtual 78, 3) := by decide +kernel
theorem d_Parser_readVariable_12 : decode prog_6_method_7_code 12 = .ok (.aload_n 0, 1) := by decide +kernel
theorem d_Parser_readVariable_13 : decode prog_6_method_7_code 13 = .ok (.iload_n 1, 1) := by decide +kernel
theorem d_Parser_readVariable_14 : decode prog_6_method_7_code 14 = .ok (.bipush 8, 2) := by decide +kernel
theorem d_Parser_readVariable_16 : decode prog_6_method_7_code 16 = .ok (.if_icmp .ge 7, 3) := by decide +kernel
theorem d_Parser_readVariable_19 : decode prog_6_method_7_code 19 = .ok (.iconst 1, 1) := by decide +kernel
theorem d_Parser_readVariable_20 : decode prog_6_method_7_code 20 = .ok (.goto 4, 3) := by decide +kernel
theorem d_Parser_readVariable_23 : decode prog_6_method_7_code 23 = .ok (.iconst 0, 1) := by decide +kernel
theorem d_Parser_readVariable_24 : decode prog_6_method_7_code 24 = .ok (.iconst 0, 1) := by decide +kernel
theorem d_Parser_readVariable_25 : decode prog_6_method_7_code 25 = .ok (.iload_n 1, 1) := by decide +kernel
theorem d_Parser_readVariable_26 : decode prog_6_method_7_code 26 = .ok (.invokevirtual 102, 3) := by decide +kernel
theorem d_Parser_readVariable_29 : decode prog_6_method_7_code 29 = .ok (.ifCond .eq 36, 3) := by decide +kernel
theorem d_Parser_readVariable_32 : decode prog_6_method_7_code 32 = .ok (.aload_n 0, 1) := by decide +kernel
theorem d_Parser_readVariable_33 : decode prog_6_method_7_code 33 = .ok (.getfield 37, 3) := by decide +kernel
theorem d_Parser_readVariable_36 : decode prog_6_method_7_code 36 = .ok (.dup, 1) := by decide +kernel
theorem d_Parser_readVariable_37 : decode prog_6_method_7_code 37 = .ok (.getfield 99, 3) := by decide +kernel
theorem d_Parser_readVariable_40 : decode prog_6_method_7_code 40 = .ok (.iconst 1, 1) := by decide +kernel
theorem d_Parser_readVariable_41 : decode prog_6_method_7_code 41 = .ok (.iadd, 1) := by decide +kernel
theorem d_Parser_readVariable_42 : decode prog_6_method_7_code 42 = .ok (.putfield 99, 3) := by decide +kernel
theorem d_Parser_readVariable_45 : decode prog_6_method_7_code 45 = .ok (.aload_n 0, 1) := by decide +kernel
theorem d_Parser_readVariable_46 : decode prog_6_method_7_code 46 = .ok (.getfield 37, 3) := by decide +kernel
theorem d_Parser_readVariable_49 : decode prog_6_method_7_code 49 = .ok (.getfield 106, 3) := by decide +kernel
theorem d_Parser_readVariable_52 : decode prog_6_method_7_code 52 = .ok (.iload_n 1, 1) := by decide +kernel
theorem d_Parser_readVariable_53 : decode prog_6_method_7_code 53 = .ok (.aload_n 0, 1) := by decide +kernel
theorem d_Parser_readVariable_54 : decode prog_6_method_7_code 54 = .ok (.invokevirtual 109, 3) := by decide +kernel
theorem d_Parser_readVariable_57 : decode prog_6_method_7_code 57 = .ok (.iastore, 1) := by decide +kernel
theorem d_Parser_readVariable_58 : decode prog_6_method_7_code 58 = .ok (.aload_n 0, 1) := by decide +kernel
theorem d_Parser_readVariable_59 : decode prog_6_method_7_code 59 = .ok (.getstatic 113, 3) := by decide +kernel
theorem d_Parser_readVariable_62 : decode prog_6_method_7_code 62 = .ok (.invokevirtual 116, 3) := by decide +kernel
theorem d_Parser_readVariable_65 : decode prog_6_method_7_code 65 = .ok (.return_, 1) := by decide +kernel
def zf_Parser_readVariable_65 (F : Nat)   (σ : zs_S) : Option (zs_S) :=
  some σ
def zf_Parser_readVariable_24 (F : Nat)  (x1 : Int32) (t0 : Int32) (σ : zs_S) : Option (zs_S) :=
  zq_c (zf_Parser_declare F t0 0 x1 σ) fun r8 σ7 =>
  if r8 = 0 then (
    zf_Parser_readVariable_65 F σ7
  ) else (
    zq_q (zs_r σ7 7 7) fun q10 =>
    zq_g (zq_k 0 q10 15) <|
    zq_v (zs_wi σ7 q10 0 ((zs_i σ7 q10 0) + 1)) fun σ12 =>
    zq_q (zs_r σ12 7 7) fun q13 =>
    zq_g (zq_k 0 q13 15) <|
    zq_q (zd_rf 0 q13 4) fun q15 =>
    zq_c (zf_Parser_readFirstValue F σ12) fun r17 σ16 =>
    zq_g (zq_k 0 q15 0) <|
    zq_g (zq_b x1 (zd_sh 0 q15).2) <|
    zq_v (zs_wi σ16 q15 ((x1).toNatClampNeg) r17) fun σ21 =>
    zq_d (zf_Parser_expect F 1023 σ21) fun σ22 =>
    zf_Parser_readVariable_65 F σ22
  )
def zf_Parser_readVariable (F : Nat)  (σ : zs_S) : Option (zs_S) :=
  zq_q (zs_r σ 7 7) fun q1 =>
  zq_g (zq_k 0 q1 15) <|
  zq_v (zs_i σ q1 0) fun v3 =>
  zq_d (zf_Parser_advance F σ) fun σ4 =>
  if 8 ≤ v3 then (
    zf_Parser_readVariable_24 F v3 0 σ4
  ) else (
    zf_Parser_readVariable_24 F v3 1 σ4
  )
set_option maxHeartbeats 4000000 in
set_option maxRecDepth 100000 in
theorem zc_Parser_readVariable {l : Launch} {D : va_G} {cA : Nat → ClassId} {ad : Nat → Nat} {A : Nat → Prop} {F : Nat}  {σ : zs_S} {q : zs_S} (hJ : zs_J ad) (hf : zf_Parser_readVariable F  σ = some q) : Met l y_Parser_readVariable (.code y_Parser_readVariable prog_6_method_7_code 2 none :: zd_ww) { frames := 3, cells := 0, slots := 0, locals := 63 } (va_Pc [.ref (ad 7)] (zs_U 0 D cA ad A σ)) (zs_Qv 0 D cA ad A q) 0 0 A := by
  refine Met.ofW (cc := prog_6_method_7_code) (maxL := 2) (ret := none) (by decide) rfl ?_
  intro p e s m args below meth c s₁ B hml hv
  obtain ⟨hargs, hP, hK, hD, hZ⟩ := hv
  have G : zs_G 0 p s m args c prog_6_method_7_code 2 "ScheduleCheck$Parser" D cA ad A := ⟨⟨B.exec, B.bytes, hml, findClass_of_methodNamed B.named, fun w h => atoms_spec B.pre w (List.mem_cons_of_mem _ h)⟩, hK, hJ, hZ⟩
  have hw : zs_I 0 D cA ad A s σ s.heap [] := ⟨hP, hD, va_S.rf⟩
  have hx := G.1.1
  have hb := G.1.2.1
  have hown := G.1.2.2.2.1
  have hts := G.1.2.2.2.2
  have hr := B.returns
  have hlocks := B.notSynchronized
  have he : entryFrame m args 2 = F0 m 0 ((lg_sl [.ref (ad 7)] ++ List.replicate (2 - (lg_sl [.ref (ad 7)]).length) Slot.unset).toArray) [] := by rw [hargs]; exact lg_entry_eq m _ 2
  have hl := lv_entry [.ref (ad 7)] (n := 2) (Nat.le_of_ble_eq_true rfl)
  rw [he]
  generalize (lg_sl [.ref (ad 7)] ++ List.replicate (2 - (lg_sl [.ref (ad 7)]).length) Slot.unset).toArray = ls at hl
  have hl : lv_has ls 2 [(0, .ref (ad 7))] := hl
  obtain ⟨RR, hR⟩ : ∃ z, z = (headSpec (.code y_Parser_readVariable prog_6_method_7_code 2 none :: zd_ww) { frames := 3, cells := 0, slots := 0, locals := 63 }).room := ⟨_, rfl⟩
  rw [← hR]
  obtain ⟨QQ, hQ⟩ : ∃ z, z = MQ below (zs_Qv 0 D cA ad A q) args s 0 0 A := ⟨_, rfl⟩
  rw [← hQ]
  have hR1 : 3 ≤ RR.frames := by rw [hR]; exact Nat.le_refl _
  have hR2 : 63 ≤ RR.locals := by rw [hR]; exact Nat.le_refl _
  generalize s.heap = H at hw ⊢
  generalize ([] : List Loc) = locs at hw ⊢
  have K65 : ∀ (σ : zs_S) (H : Heap) (locs : List Loc) (ls : Array Slot), zf_Parser_readVariable_65 F σ = some q → zs_I 0 D cA ad A s σ H locs → lv_has ls 2 [] → W p l e RR s m args below meth c H locs 0 0 QQ (F0 m 65 ls []) := by
    intro   σ H locs ls hf hw hl
    unfold zf_Parser_readVariable_65 at hf
    exact zr_vret G hw hr hlocks hf hQ d_Parser_readVariable_65
  have K24 : ∀ (x1 : Int32) (t0 : Int32) (σ : zs_S) (H : Heap) (locs : List Loc) (ls : Array Slot), zf_Parser_readVariable_24 F x1 t0 σ = some q → zs_I 0 D cA ad A s σ H locs → lv_has ls 2 [(0, .ref (ad 7)), (1, .int x1)] → W p l e RR s m args below meth c H locs 0 0 QQ (F0 m 24 ls [.int t0, .ref (ad 7)]) := by
    intro  x1 t0 σ H locs ls hf hw hl
    unfold zf_Parser_readVariable_24 at hf
    refine lv_iconst (v := 0) hx hb d_Parser_readVariable_24 (by decide) ?_
    refine lv_iload_n hx hb d_Parser_readVariable_25 rfl (lv_at hl 1 rfl) ?_
    obtain ⟨r8, σ7, hc9, hf⟩ := zq_cs hf
    refine zr_ci hw (zr_runV (rest := []) (ci := 2) (o := 7) G hw [.int t0, .int 0, .int x1] (zc_Parser_declare hJ hc9) (cwV 3 hts (zs_gV zm_293 zm_294 zm_295 zm_269 zm_292) rfl rfl rfl (by decide +kernel) ⟨Nat.le_trans (by decide) hR1, Nat.le_trans (by decide) hR2⟩) rfl rfl rfl hl.1 (Nat.le_of_ble_eq_true rfl) d_Parser_readVariable_26 ⟨Nat.zero_le _, Nat.zero_le _⟩) (fun H locs hw => ?_)
    refine lv_if_eq hx hb d_Parser_readVariable_29 (tgt := 65) rfl (fun hc => ?_) (fun hc => ?_)
    · have hf := (if_pos hc).symm.trans hf
      exact K65 σ7 H locs ls hf hw (lv_sub hl [] rfl)
    · have hf := (if_neg hc).symm.trans hf
      refine lv_aload_n hx hb d_Parser_readVariable_32 rfl (lv_at hl 0 rfl) ?_
      obtain ⟨q10, e_q10, h_q10, hf⟩ := zq_qs hf
      refine zr_get (ci := 2) G hw 7 7 zi_2 rfl rfl rfl (by decide) zm_290 (fun _ h => h) (v := .ref (ad q10)) (zs_fr rfl e_q10 h_q10) d_Parser_readVariable_33 ?_
      refine lv_dup hx hb d_Parser_readVariable_36 rfl ?_
      obtain ⟨hs11, hf⟩ := zq_gs hf
      have hs11 := zq_ks hs11
      refine zr_get (ci := 5) G hw q10 0 zi_5 hs11 rfl rfl (by decide) zm_291 (fun _ h => h) (v := .int (zs_i σ7 q10 0)) rfl d_Parser_readVariable_37 ?_
      refine lv_iconst (v := 1) hx hb d_Parser_readVariable_40 (by decide) ?_
      refine lv_iadd hx hb d_Parser_readVariable_41 ?_
      obtain ⟨σ12, e_σ12, hf⟩ := zq_ss hf
      refine zr_puti (ci := 5) G hw q10 0 zi_5 t_zd5 t_zd5_ok n_zd5 hs11 rfl rfl (by decide) rfl zm_291 (fun _ h => h) rfl (x := ((zs_i σ7 q10 0) + 1)) (t_zd5_ok 0 (by decide)) rfl rfl d_Parser_readVariable_42 (fun H locs hw => ?_)
      rw [← e_σ12] at hw
      refine lv_aload_n hx hb d_Parser_readVariable_45 rfl (lv_at hl 0 rfl) ?_
      obtain ⟨q13, e_q13, h_q13, hf⟩ := zq_qs hf
      refine zr_get (ci := 2) G hw 7 7 zi_2 rfl rfl rfl (by decide) zm_290 (fun _ h => h) (v := .ref (ad q13)) (zs_fr rfl e_q13 h_q13) d_Parser_readVariable_46 ?_
      obtain ⟨hs14, hf⟩ := zq_gs hf
      have hs14 := zq_ks hs14
      obtain ⟨q15, e_q15, h_q15, hf⟩ := zq_qs hf
      refine zr_get (ci := 5) G hw q13 4 zi_5 hs14 rfl rfl (by decide) zm_296 (fun _ h => h) (v := .ref (ad q15)) (zs_fs rfl e_q15 h_q15) d_Parser_readVariable_49 ?_
      refine lv_iload_n hx hb d_Parser_readVariable_52 rfl (lv_at hl 1 rfl) ?_
      refine lv_aload_n hx hb d_Parser_readVariable_53 rfl (lv_at hl 0 rfl) ?_
      obtain ⟨r17, σ16, hc18, hf⟩ := zq_cs hf
      refine zr_ci hw (zr_runV (rest := [.int x1, .ref (ad q15)]) (ci := 2) (o := 7) G hw [] (zc_Parser_readFirstValue hJ hc18) (cwV 0 hts (zs_gV zm_298 zm_299 zm_300 zm_269 zm_297) rfl rfl rfl (by decide +kernel) ⟨Nat.le_trans (by decide) hR1, Nat.le_trans (by decide) hR2⟩) rfl rfl rfl hl.1 (Nat.le_of_ble_eq_true rfl) d_Parser_readVariable_54 ⟨Nat.zero_le _, Nat.zero_le _⟩) (fun H locs hw => ?_)
      obtain ⟨hs19, hf⟩ := zq_gs hf
      have hs19 := zq_ks hs19
      obtain ⟨hi20, hf⟩ := zq_gs hf
      obtain ⟨σ21, e_σ21, hf⟩ := zq_ss hf
      refine zr_iast G hw q15 hs19 rfl  hi20  d_Parser_readVariable_57 (fun H locs hw => ?_)
      rw [← e_σ21] at hw
      refine lv_aload_n hx hb d_Parser_readVariable_58 rfl (lv_at hl 0 rfl) ?_
      refine va_gets (C := "ScheduleCheck$Token") (n := "SEMICOLON") (d := "LScheduleCheck$Token;") (v := .ref (ad 1023)) hx hb ((G.2.2.2.1 rfl).1.1 23 (by decide)).1 hw.2.2 hown (hts _ zm_301) (fun _ h => h) d_Parser_readVariable_59 ?_
      obtain ⟨σ22, hc24, hf⟩ := zq_ds hf
      refine zr_cv hw (zr_runV (rest := []) (ci := 2) (o := 7) G hw [.ref (ad 1023)] (zc_Parser_expect hJ hc24) (cwV 1 hts (zs_gV zm_287 zm_288 zm_289 zm_269 zm_286) rfl rfl rfl (by decide +kernel) ⟨Nat.le_trans (by decide) hR1, Nat.le_trans (by decide) hR2⟩) rfl rfl rfl hl.1 (Nat.le_of_ble_eq_true rfl) d_Parser_readVariable_62 ⟨Nat.zero_le _, Nat.zero_le _⟩) (fun H locs hw => ?_)
      exact K65 σ22 H locs ls hf hw (lv_sub hl [] rfl)
  unfold zf_Parser_readVariable at hf
  refine lv_aload_n hx hb d_Parser_readVariable_0 rfl (lv_at hl 0 rfl) ?_
  obtain ⟨q1, e_q1, h_q1, hf⟩ := zq_qs hf
  refine zr_get (ci := 2) G hw 7 7 zi_2 rfl rfl rfl (by decide) zm_290 (fun _ h => h) (v := .ref (ad q1)) (zs_fr rfl e_q1 h_q1) d_Parser_readVariable_1 ?_
  obtain ⟨hs2, hf⟩ := zq_gs hf
  have hs2 := zq_ks hs2
  refine zr_get (ci := 5) G hw q1 0 zi_5 hs2 rfl rfl (by decide) zm_291 (fun _ h => h) (v := .int (zs_i σ q1 0)) rfl d_Parser_readVariable_4 ?_
  refine lv_topi (fun v3 e_v3 => ?_)
  have hf := zq_vs e_v3 hf
  refine lv_istore_n hx hb d_Parser_readVariable_7 rfl hl (by decide) rfl (fun ls hl => ?_)
  have hl : lv_has ls 2 [(1, .int v3), (0, .ref (ad 7))] := hl
  refine lv_aload_n hx hb d_Parser_readVariable_8 rfl (lv_at hl 1 rfl) ?_
  obtain ⟨σ4, hc6, hf⟩ := zq_ds hf
  refine zr_cv hw (zr_runV (rest := []) (ci := 2) (o := 7) G hw [] (zc_Parser_advance hJ hc6) (cwV 0 hts (zs_gV zm_271 zm_272 zm_273 zm_269 zm_270) rfl rfl rfl (by decide +kernel) ⟨Nat.le_trans (by decide) hR1, Nat.le_trans (by decide) hR2⟩) rfl rfl rfl hl.1 (Nat.le_of_ble_eq_true rfl) d_Parser_readVariable_9 ⟨Nat.zero_le _, Nat.zero_le _⟩) (fun H locs hw => ?_)
  refine lv_aload_n hx hb d_Parser_readVariable_12 rfl (lv_at hl 1 rfl) ?_
  refine lv_iload_n hx hb d_Parser_readVariable_13 rfl (lv_at hl 0 rfl) ?_
  refine lv_bipush (v := 8) hx hb d_Parser_readVariable_14 (by decide) ?_
  refine lv_icmp_ge hx hb d_Parser_readVariable_16 (tgt := 23) rfl (fun hc => ?_) (fun hc => ?_)
  · have hf := (if_pos hc).symm.trans hf
    refine lv_iconst (v := 0) hx hb d_Parser_readVariable_23 (by decide) ?_
    exact K24 v3 0 σ4 H locs ls hf hw (lv_sub hl [1, 0] rfl)
  · have hf := (if_neg hc).symm.trans hf
    refine lv_iconst (v := 1) hx hb d_Parser_readVariable_19 (by decide) ?_
    refine lv_goto hx hb d_Parser_readVariable_20 (tgt := 24) rfl ?_
    exact K24 v3 1 σ4 H locs ls hf hw (lv_sub hl [1, 0] rfl)
/-! ScheduleCheck$Parser.readLock -/
def y_Parser_readLock : MethodName := ⟨"ScheduleCheck$Parser","readLock","()V"⟩
theorem d_Parser_readLock_0 : decode prog_6_method_9_code 0 = .ok (.aload_n 0, 1) := by decide +kernel
theorem d_Parser_readLock_1 : decode prog_6_method_9_code 1 = .ok (.getfield 37, 3) := by decide +kernel
theorem d_Parser_readLock_4 : decode prog_6_method_9_code 4 = .ok (.getfield 132, 3) := by decide +kernel
theorem d_Parser_readLock_7 : decode prog_6_method_9_code 7 = .ok (.istore_n 1, 1) := by decide +kernel
theorem d_Parser_readLock_8 : decode prog_6_method_9_code 8 = .ok (.aload_n 0, 1) := by decide +kernel
theorem d_Parser_readLock_9 : decode prog_6_method_9_code 9 = .ok (.invokevirtual 78, 3) := by decide +kernel
theorem d_Parser_readLock_12 : decode prog_6_method_9_code 12 = .ok (.aload_n 0, 1) := by decide +kernel
theorem d_Parser_readLock_13 : decode prog_6_method_9_code 13 = .ok (.iload_n 1, 1) := by decide +kernel
theorem d_Parser_readLock_14 : decode prog_6_method_9_code 14 = .ok (.iconst 4, 1) := by decide +kernel
theorem d_Parser_readLock_15 : decode prog_6_method_9_code 15 = .ok (.if_icmp .ge 7, 3) := by decide +kernel
theorem d_Parser_readLock_18 : decode prog_6_method_9_code 18 = .ok (.iconst 1, 1) := by decide +kernel
theorem d_Parser_readLock_19 : decode prog_6_method_9_code 19 = .ok (.goto 4, 3) := by decide +kernel
theorem d_Parser_readLock_22 : decode prog_6_method_9_code 22 = .ok (.iconst 0, 1) := by decide +kernel
theorem d_Parser_readLock_23 : decode prog_6_method_9_code 23 = .ok (.iconst 0, 1) := by decide +kernel
theorem d_Parser_readLock_24 : decode prog_6_method_9_code 24 = .ok (.bipush 8, 2) := by decide +kernel
theorem d_Parser_readLock_26 : decode prog_6_method_9_code 26 = .ok (.iload_n 1, 1) := by decide +kernel
theorem d_Parser_readLock_27 : decode prog_6_method_9_code 27 = .ok (.iadd, 1) := by decide +kernel
theorem d_Parser_readLock_28 : decode prog_6_method_9_code 28 = .ok (.invokevirtual 102, 3) := by decide +kernel
theorem d_Parser_readLock_31 : decode prog_6_method_9_code 31 = .ok (.ifCond .eq 23, 3) := by decide +kernel
theorem d_Parser_readLock_34 : decode prog_6_method_9_code 34 = .ok (.aload_n 0, 1) := by decide +kernel
theorem d_Parser_readLock_35 : decode prog_6_method_9_code 35 = .ok (.getfield 37, 3) := by decide +kernel
theorem d_Parser_readLock_38 : decode prog_6_method_9_code 38 = .ok (.dup, 1) := by decide +kernel
theorem d_Parser_readLock_39 : decode prog_6_method_9_code 39 = .ok (.getfield 132, 3) := by decide +kernel
theorem d_Parser_readLock_42 : decode prog_6_method_9_code 42 = .ok (.iconst 1, 1) := by decide +kernel
theorem d_Parser_readLock_43 : decode prog_6_method_9_code 43 = .ok (.iadd, 1) := by decide +kernel
theorem d_Parser_readLock_44 : decode prog_6_method_9_code 44 = .ok (.putfield 132, 3) := by decide +kernel
theorem d_Parser_readLock_47 : decode prog_6_method_9_code 47 = .ok (.aload_n 0, 1) := by decide +kernel
theorem d_Parser_readLock_48 : decode prog_6_method_9_code 48 = .ok (.getstatic 113, 3) := by decide +kernel
theorem d_Parser_readLock_51 : decode prog_6_method_9_code 51 = .ok (.invokevirtual 116, 3) := by decide +kernel
theorem d_Parser_readLock_54 : decode prog_6_method_9_code 54 = .ok (.return_, 1) := by decide +kernel
def zf_Parser_readLock_54 (F : Nat)   (σ : zs_S) : Option (zs_S) :=
  some σ
def zf_Parser_readLock_23 (F : Nat)  (x1 : Int32) (t0 : Int32) (σ : zs_S) : Option (zs_S) :=
  zq_c (zf_Parser_declare F t0 0 (8 + x1) σ) fun r8 σ7 =>
  if r8 = 0 then (
    zf_Parser_readLock_54 F σ7
  ) else (
    zq_q (zs_r σ7 7 7) fun q10 =>
    zq_g (zq_k 0 q10 15) <|
    zq_v (zs_wi σ7 q10 1 ((zs_i σ7 q10 1) + 1)) fun σ12 =>
    zq_d (zf_Parser_expect F 1023 σ12) fun σ13 =>
    zf_Parser_readLock_54 F σ13
  )
def zf_Parser_readLock (F : Nat)  (σ : zs_S) : Option (zs_S) :=
  zq_q (zs_r σ 7 7) fun q1 =>
  zq_g (zq_k 0 q1 15) <|
  zq_v (zs_i σ q1 1) fun v3 =>
  zq_d (zf_Parser_advance F σ) fun σ4 =>
  if 4 ≤ v3 then (
    zf_Parser_readLock_23 F v3 0 σ4
  ) else (
    zf_Parser_readLock_23 F v3 1 σ4
  )
set_option maxHeartbeats 4000000 in
set_option maxRecDepth 100000 in
theorem zc_Parser_readLock {l : Launch} {D : va_G} {cA : Nat → ClassId} {ad : Nat → Nat} {A : Nat → Prop} {F : Nat}  {σ : zs_S} {q : zs_S} (hJ : zs_J ad) (hf : zf_Parser_readLock F  σ = some q) : Met l y_Parser_readLock (.code y_Parser_readLock prog_6_method_9_code 2 none :: zd_ww) { frames := 2, cells := 0, slots := 0, locals := 45 } (va_Pc [.ref (ad 7)] (zs_U 0 D cA ad A σ)) (zs_Qv 0 D cA ad A q) 0 0 A := by
  refine Met.ofW (cc := prog_6_method_9_code) (maxL := 2) (ret := none) (by decide) rfl ?_
  intro p e s m args below meth c s₁ B hml hv
  obtain ⟨hargs, hP, hK, hD, hZ⟩ := hv
  have G : zs_G 0 p s m args c prog_6_method_9_code 2 "ScheduleCheck$Parser" D cA ad A := ⟨⟨B.exec, B.bytes, hml, findClass_of_methodNamed B.named, fun w h => atoms_spec B.pre w (List.mem_cons_of_mem _ h)⟩, hK, hJ, hZ⟩
  have hw : zs_I 0 D cA ad A s σ s.heap [] := ⟨hP, hD, va_S.rf⟩
  have hx := G.1.1
  have hb := G.1.2.1
  have hown := G.1.2.2.2.1
  have hts := G.1.2.2.2.2
  have hr := B.returns
  have hlocks := B.notSynchronized
  have he : entryFrame m args 2 = F0 m 0 ((lg_sl [.ref (ad 7)] ++ List.replicate (2 - (lg_sl [.ref (ad 7)]).length) Slot.unset).toArray) [] := by rw [hargs]; exact lg_entry_eq m _ 2
  have hl := lv_entry [.ref (ad 7)] (n := 2) (Nat.le_of_ble_eq_true rfl)
  rw [he]
  generalize (lg_sl [.ref (ad 7)] ++ List.replicate (2 - (lg_sl [.ref (ad 7)]).length) Slot.unset).toArray = ls at hl
  have hl : lv_has ls 2 [(0, .ref (ad 7))] := hl
  obtain ⟨RR, hR⟩ : ∃ z, z = (headSpec (.code y_Parser_readLock prog_6_method_9_code 2 none :: zd_ww) { frames := 2, cells := 0, slots := 0, locals := 45 }).room := ⟨_, rfl⟩
  rw [← hR]
  obtain ⟨QQ, hQ⟩ : ∃ z, z = MQ below (zs_Qv 0 D cA ad A q) args s 0 0 A := ⟨_, rfl⟩
  rw [← hQ]
  have hR1 : 2 ≤ RR.frames := by rw [hR]; exact Nat.le_refl _
  have hR2 : 45 ≤ RR.locals := by rw [hR]; exact Nat.le_refl _
  generalize s.heap = H at hw ⊢
  generalize ([] : List Loc) = locs at hw ⊢
  have K54 : ∀ (σ : zs_S) (H : Heap) (locs : List Loc) (ls : Array Slot), zf_Parser_readLock_54 F σ = some q → zs_I 0 D cA ad A s σ H locs → lv_has ls 2 [] → W p l e RR s m args below meth c H locs 0 0 QQ (F0 m 54 ls []) := by
    intro   σ H locs ls hf hw hl
    unfold zf_Parser_readLock_54 at hf
    exact zr_vret G hw hr hlocks hf hQ d_Parser_readLock_54
  have K23 : ∀ (x1 : Int32) (t0 : Int32) (σ : zs_S) (H : Heap) (locs : List Loc) (ls : Array Slot), zf_Parser_readLock_23 F x1 t0 σ = some q → zs_I 0 D cA ad A s σ H locs → lv_has ls 2 [(0, .ref (ad 7)), (1, .int x1)] → W p l e RR s m args below meth c H locs 0 0 QQ (F0 m 23 ls [.int t0, .ref (ad 7)]) := by
    intro  x1 t0 σ H locs ls hf hw hl
    unfold zf_Parser_readLock_23 at hf
    refine lv_iconst (v := 0) hx hb d_Parser_readLock_23 (by decide) ?_
    refine lv_bipush (v := 8) hx hb d_Parser_readLock_24 (by decide) ?_
    refine lv_iload_n hx hb d_Parser_readLock_26 rfl (lv_at hl 1 rfl) ?_
    refine lv_iadd hx hb d_Parser_readLock_27 ?_
    obtain ⟨r8, σ7, hc9, hf⟩ := zq_cs hf
    refine zr_ci hw (zr_runV (rest := []) (ci := 2) (o := 7) G hw [.int t0, .int 0, .int (8 + x1)] (zc_Parser_declare hJ hc9) (cwV 3 hts (zs_gV zm_293 zm_294 zm_295 zm_269 zm_292) rfl rfl rfl (by decide +kernel) ⟨Nat.le_trans (by decide) hR1, Nat.le_trans (by decide) hR2⟩) rfl rfl rfl hl.1 (Nat.le_of_ble_eq_true rfl) d_Parser_readLock_28 ⟨Nat.zero_le _, Nat.zero_le _⟩) (fun H locs hw => ?_)
    refine lv_if_eq hx hb d_Parser_readLock_31 (tgt := 54) rfl (fun hc => ?_) (fun hc => ?_)
    · have hf := (if_pos hc).symm.trans hf
      exact K54 σ7 H locs ls hf hw (lv_sub hl [] rfl)
    · have hf := (if_neg hc).symm.trans hf
      refine lv_aload_n hx hb d_Parser_readLock_34 rfl (lv_at hl 0 rfl) ?_
      obtain ⟨q10, e_q10, h_q10, hf⟩ := zq_qs hf
      refine zr_get (ci := 2) G hw 7 7 zi_2 rfl rfl rfl (by decide) zm_290 (fun _ h => h) (v := .ref (ad q10)) (zs_fr rfl e_q10 h_q10) d_Parser_readLock_35 ?_
      refine lv_dup hx hb d_Parser_readLock_38 rfl ?_
      obtain ⟨hs11, hf⟩ := zq_gs hf
      have hs11 := zq_ks hs11
      refine zr_get (ci := 5) G hw q10 1 zi_5 hs11 rfl rfl (by decide) zm_302 (fun _ h => h) (v := .int (zs_i σ7 q10 1)) rfl d_Parser_readLock_39 ?_
      refine lv_iconst (v := 1) hx hb d_Parser_readLock_42 (by decide) ?_
      refine lv_iadd hx hb d_Parser_readLock_43 ?_
      obtain ⟨σ12, e_σ12, hf⟩ := zq_ss hf
      refine zr_puti (ci := 5) G hw q10 1 zi_5 t_zd5 t_zd5_ok n_zd5 hs11 rfl rfl (by decide) rfl zm_302 (fun _ h => h) rfl (x := ((zs_i σ7 q10 1) + 1)) (t_zd5_ok 1 (by decide)) rfl rfl d_Parser_readLock_44 (fun H locs hw => ?_)
      rw [← e_σ12] at hw
      refine lv_aload_n hx hb d_Parser_readLock_47 rfl (lv_at hl 0 rfl) ?_
      refine va_gets (C := "ScheduleCheck$Token") (n := "SEMICOLON") (d := "LScheduleCheck$Token;") (v := .ref (ad 1023)) hx hb ((G.2.2.2.1 rfl).1.1 23 (by decide)).1 hw.2.2 hown (hts _ zm_301) (fun _ h => h) d_Parser_readLock_48 ?_
      obtain ⟨σ13, hc15, hf⟩ := zq_ds hf
      refine zr_cv hw (zr_runV (rest := []) (ci := 2) (o := 7) G hw [.ref (ad 1023)] (zc_Parser_expect hJ hc15) (cwV 1 hts (zs_gV zm_287 zm_288 zm_289 zm_269 zm_286) rfl rfl rfl (by decide +kernel) ⟨Nat.le_trans (by decide) hR1, Nat.le_trans (by decide) hR2⟩) rfl rfl rfl hl.1 (Nat.le_of_ble_eq_true rfl) d_Parser_readLock_51 ⟨Nat.zero_le _, Nat.zero_le _⟩) (fun H locs hw => ?_)
      exact K54 σ13 H locs ls hf hw (lv_sub hl [] rfl)
  unfold zf_Parser_readLock at hf
  refine lv_aload_n hx hb d_Parser_readLock_0 rfl (lv_at hl 0 rfl) ?_
  obtain ⟨q1, e_q1, h_q1, hf⟩ := zq_qs hf
  refine zr_get (ci := 2) G hw 7 7 zi_2 rfl rfl rfl (by decide) zm_290 (fun _ h => h) (v := .ref (ad q1)) (zs_fr rfl e_q1 h_q1) d_Parser_readLock_1 ?_
  obtain ⟨hs2, hf⟩ := zq_gs hf
  have hs2 := zq_ks hs2
  refine zr_get (ci := 5) G hw q1 1 zi_5 hs2 rfl rfl (by decide) zm_302 (fun _ h => h) (v := .int (zs_i σ q1 1)) rfl d_Parser_readLock_4 ?_
  refine lv_topi (fun v3 e_v3 => ?_)
  have hf := zq_vs e_v3 hf
  refine lv_istore_n hx hb d_Parser_readLock_7 rfl hl (by decide) rfl (fun ls hl => ?_)
  have hl : lv_has ls 2 [(1, .int v3), (0, .ref (ad 7))] := hl
  refine lv_aload_n hx hb d_Parser_readLock_8 rfl (lv_at hl 1 rfl) ?_
  obtain ⟨σ4, hc6, hf⟩ := zq_ds hf
  refine zr_cv hw (zr_runV (rest := []) (ci := 2) (o := 7) G hw [] (zc_Parser_advance hJ hc6) (cwV 0 hts (zs_gV zm_271 zm_272 zm_273 zm_269 zm_270) rfl rfl rfl (by decide +kernel) ⟨Nat.le_trans (by decide) hR1, Nat.le_trans (by decide) hR2⟩) rfl rfl rfl hl.1 (Nat.le_of_ble_eq_true rfl) d_Parser_readLock_9 ⟨Nat.zero_le _, Nat.zero_le _⟩) (fun H locs hw => ?_)
  refine lv_aload_n hx hb d_Parser_readLock_12 rfl (lv_at hl 1 rfl) ?_
  refine lv_iload_n hx hb d_Parser_readLock_13 rfl (lv_at hl 0 rfl) ?_
  refine lv_iconst (v := 4) hx hb d_Parser_readLock_14 (by decide) ?_
  refine lv_icmp_ge hx hb d_Parser_readLock_15 (tgt := 22) rfl (fun hc => ?_) (fun hc => ?_)
  · have hf := (if_pos hc).symm.trans hf
    refine lv_iconst (v := 0) hx hb d_Parser_readLock_22 (by decide) ?_
    exact K23 v3 0 σ4 H locs ls hf hw (lv_sub hl [1, 0] rfl)
  · have hf := (if_neg hc).symm.trans hf
    refine lv_iconst (v := 1) hx hb d_Parser_readLock_18 (by decide) ?_
    refine lv_goto hx hb d_Parser_readLock_19 (tgt := 23) rfl ?_
    exact K23 v3 1 σ4 H locs ls hf hw (lv_sub hl [1, 0] rfl)
/-! ScheduleCheck$Parser.readDeclarations -/
def y_Parser_readDeclarations : MethodName := ⟨"ScheduleCheck$Parser","readDeclarations","()V"⟩
theorem d_Parser_readDeclarations_0 : decode prog_6_method_6_code 0 = .ok (.aload_n 0, 1) := by decide +kernel
theorem d_Parser_readDeclarations_1 : decode prog_6_method_6_code 1 = .ok (.iconst 0, 1) := by decide +kernel
theorem d_Parser_readDeclarations_2 : decode prog_6_method_6_code 2 = .ok (.putfield 81, 3) := by decide +kernel
theorem d_Parser_readDeclarations_5 : decode prog_6_method_6_code 5 = .ok (.iconst 0, 1) := by decide +kernel
theorem d_Parser_readDeclarations_6 : decode prog_6_method_6_code 6 = .ok (.istore_n 1, 1) := by decide +kernel
theorem d_Parser_readDeclarations_7 : decode prog_6_method_6_code 7 = .ok (.iload_n 1, 1) := by decide +kernel
theorem d_Parser_readDeclarations_8 : decode prog_6_method_6_code 8 = .ok (.bipush 12, 2) := by decide +kernel
theorem d_Parser_readDeclarations_10 : decode prog_6_method_6_code 10 = .ok (.if_icmp .gt 40, 3) := by decide +kernel
theorem d_Parser_readDeclarations_13 : decode prog_6_method_6_code 13 = .ok (.aload_n 0, 1) := by decide +kernel
theorem d_Parser_readDeclarations_14 : decode prog_6_method_6_code 14 = .ok (.getfield 33, 3) := by decide +kernel
theorem d_Parser_readDeclarations_17 : decode prog_6_method_6_code 17 = .ok (.getstatic 84, 3) := by decide +kernel
theorem d_Parser_readDeclarations_20 : decode prog_6_method_6_code 20 = .ok (.if_acmp .ne 10, 3) := by decide +kernel
theorem d_Parser_readDeclarations_23 : decode prog_6_method_6_code 23 = .ok (.aload_n 0, 1) := by decide +kernel
theorem d_Parser_readDeclarations_24 : decode prog_6_method_6_code 24 = .ok (.invokevirtual 87, 3) := by decide +kernel
theorem d_Parser_readDeclarations_27 : decode prog_6_method_6_code 27 = .ok (.goto 17, 3) := by decide +kernel
theorem d_Parser_readDeclarations_30 : decode prog_6_method_6_code 30 = .ok (.aload_n 0, 1) := by decide +kernel
theorem d_Parser_readDeclarations_31 : decode prog_6_method_6_code 31 = .ok (.getfield 33, 3) := by decide +kernel
theorem d_Parser_readDeclarations_34 : decode prog_6_method_6_code 34 = .ok (.getstatic 90, 3) := by decide +kernel
theorem d_Parser_readDeclarations_37 : decode prog_6_method_6_code 37 = .ok (.if_acmp .ne 7, 3) := by decide +kernel
theorem d_Parser_readDeclarations_40 : decode prog_6_method_6_code 40 = .ok (.aload_n 0, 1) := by decide +kernel
theorem d_Parser_readDeclarations_41 : decode prog_6_method_6_code 41 = .ok (.invokevirtual 93, 3) := by decide +kernel
theorem d_Parser_readDeclarations_44 : decode prog_6_method_6_code 44 = .ok (.iinc 1 1, 3) := by decide +kernel
theorem d_Parser_readDeclarations_47 : decode prog_6_method_6_code 47 = .ok (.goto (-40), 3) := by decide +kernel
theorem d_Parser_readDeclarations_50 : decode prog_6_method_6_code 50 = .ok (.aload_n 0, 1) := by decide +kernel
theorem d_Parser_readDeclarations_51 : decode prog_6_method_6_code 51 = .ok (.aload_n 0, 1) := by decide +kernel
theorem d_Parser_readDeclarations_52 : decode prog_6_method_6_code 52 = .ok (.getfield 81, 3) := by decide +kernel
theorem d_Parser_readDeclarations_55 : decode prog_6_method_6_code 55 = .ok (.putfield 96, 3) := by decide +kernel
theorem d_Parser_readDeclarations_58 : decode prog_6_method_6_code 58 = .ok (.return_, 1) := by decide +kernel
def zf_Parser_readDeclarations_44 (F : Nat) (k7 : Int32 → zs_S → Option (zs_S)) (x1 : Int32) (σ : zs_S) : Option (zs_S) :=
  zq_v (x1 + 1) fun v13 =>
  k7 v13 σ
def zf_Parser_readDeclarations_7 (F : Nat)  : Nat → Int32 → zs_S → Option (zs_S)
  | 0, _, _ => none
  | n + 1, x1, σ =>
    if 12 < x1 then (
      zq_v (zs_wi σ 7 3 (zs_i σ 7 2)) fun σ2 =>
      some σ2
    ) else (
      zq_q (zs_r σ 7 6) fun q3 =>
      zq_g (decide (q3 < 1200)) <|
      if q3 = 1005 then (
        zq_d (zf_Parser_readVariable F σ) fun σ10 =>
        zf_Parser_readDeclarations_44 F (zf_Parser_readDeclarations_7 F n) x1 σ10
      ) else (
        zq_q (zs_r σ 7 6) fun q5 =>
        zq_g (decide (q5 < 1200)) <|
        if q5 = 1006 then (
          zq_d (zf_Parser_readLock F σ) fun σ7 =>
          zf_Parser_readDeclarations_44 F (zf_Parser_readDeclarations_7 F n) x1 σ7
        ) else (
          zf_Parser_readDeclarations_44 F (zf_Parser_readDeclarations_7 F n) x1 σ
        )
      )
    )
def zf_Parser_readDeclarations (F : Nat)  (σ : zs_S) : Option (zs_S) :=
  zq_v (zs_wi σ 7 2 0) fun σ1 =>
  zf_Parser_readDeclarations_7 F F 0 σ1
set_option maxHeartbeats 4000000 in
set_option maxRecDepth 100000 in
theorem zc_Parser_readDeclarations {l : Launch} {D : va_G} {cA : Nat → ClassId} {ad : Nat → Nat} {A : Nat → Prop} {F : Nat}  {σ : zs_S} {q : zs_S} (hJ : zs_J ad) (hf : zf_Parser_readDeclarations F  σ = some q) : Met l y_Parser_readDeclarations (.code y_Parser_readDeclarations prog_6_method_6_code 2 none :: zd_ww) { frames := 4, cells := 0, slots := 0, locals := 84 } (va_Pc [.ref (ad 7)] (zs_U 0 D cA ad A σ)) (zs_Qv 0 D cA ad A q) 0 0 A := by
  refine Met.ofW (cc := prog_6_method_6_code) (maxL := 2) (ret := none) (by decide) rfl ?_
  intro p e s m args below meth c s₁ B hml hv
  obtain ⟨hargs, hP, hK, hD, hZ⟩ := hv
  have G : zs_G 0 p s m args c prog_6_method_6_code 2 "ScheduleCheck$Parser" D cA ad A := ⟨⟨B.exec, B.bytes, hml, findClass_of_methodNamed B.named, fun w h => atoms_spec B.pre w (List.mem_cons_of_mem _ h)⟩, hK, hJ, hZ⟩
  have hw : zs_I 0 D cA ad A s σ s.heap [] := ⟨hP, hD, va_S.rf⟩
  have hx := G.1.1
  have hb := G.1.2.1
  have hown := G.1.2.2.2.1
  have hts := G.1.2.2.2.2
  have hr := B.returns
  have hlocks := B.notSynchronized
  have he : entryFrame m args 2 = F0 m 0 ((lg_sl [.ref (ad 7)] ++ List.replicate (2 - (lg_sl [.ref (ad 7)]).length) Slot.unset).toArray) [] := by rw [hargs]; exact lg_entry_eq m _ 2
  have hl := lv_entry [.ref (ad 7)] (n := 2) (Nat.le_of_ble_eq_true rfl)
  rw [he]
  generalize (lg_sl [.ref (ad 7)] ++ List.replicate (2 - (lg_sl [.ref (ad 7)]).length) Slot.unset).toArray = ls at hl
  have hl : lv_has ls 2 [(0, .ref (ad 7))] := hl
  obtain ⟨RR, hR⟩ : ∃ z, z = (headSpec (.code y_Parser_readDeclarations prog_6_method_6_code 2 none :: zd_ww) { frames := 4, cells := 0, slots := 0, locals := 84 }).room := ⟨_, rfl⟩
  rw [← hR]
  obtain ⟨QQ, hQ⟩ : ∃ z, z = MQ below (zs_Qv 0 D cA ad A q) args s 0 0 A := ⟨_, rfl⟩
  rw [← hQ]
  have hR1 : 4 ≤ RR.frames := by rw [hR]; exact Nat.le_refl _
  have hR2 : 84 ≤ RR.locals := by rw [hR]; exact Nat.le_refl _
  generalize s.heap = H at hw ⊢
  generalize ([] : List Loc) = locs at hw ⊢
  have K44 : ∀ (k7 : Int32 → zs_S → Option (zs_S)) (hk7 : ∀ (x1 : Int32) (σ : zs_S) (H : Heap) (locs : List Loc) (ls : Array Slot), k7 x1 σ = some q → zs_I 0 D cA ad A s σ H locs → lv_has ls 2 [(0, .ref (ad 7)), (1, .int x1)] → W p l e RR s m args below meth c H locs 0 0 QQ (F0 m 7 ls [])) (x1 : Int32) (σ : zs_S) (H : Heap) (locs : List Loc) (ls : Array Slot), zf_Parser_readDeclarations_44 F k7 x1 σ = some q → zs_I 0 D cA ad A s σ H locs → lv_has ls 2 [(0, .ref (ad 7)), (1, .int x1)] → W p l e RR s m args below meth c H locs 0 0 QQ (F0 m 44 ls []) := by
    intro k7 hk7 x1 σ H locs ls hf hw hl
    unfold zf_Parser_readDeclarations_44 at hf
    obtain ⟨v13, e_v13, hf⟩ := zq_ss hf
    refine lv_iinc (v := v13) hx hb d_Parser_readDeclarations_44 hl (k := 1) rfl (zq_inc (k := 1) (by decide) e_v13) (by decide) rfl (fun ls hl => ?_)
    have hl : lv_has ls 2 [(1, .int v13), (0, .ref (ad 7))] := hl
    refine lv_goto hx hb d_Parser_readDeclarations_47 (tgt := 7) rfl ?_
    exact hk7 v13 σ H locs ls hf hw (lv_sub hl [1, 0] rfl)
  have K7 : ∀ (n : Nat) (x1 : Int32) (σ : zs_S) (H : Heap) (locs : List Loc) (ls : Array Slot), zf_Parser_readDeclarations_7 F n x1 σ = some q → zs_I 0 D cA ad A s σ H locs → lv_has ls 2 [(0, .ref (ad 7)), (1, .int x1)] → W p l e RR s m args below meth c H locs 0 0 QQ (F0 m 7 ls []) := by
    intro  n
    induction n with
    | zero => intro x1 σ H locs ls hf hw hl; exact nomatch (show (none : Option (zs_S)) = some q from hf)
    | succ n ih =>
      intro x1 σ H locs ls hf hw hl
      rw [zf_Parser_readDeclarations_7] at hf
      refine lv_iload_n hx hb d_Parser_readDeclarations_7 rfl (lv_at hl 1 rfl) ?_
      refine lv_bipush (v := 12) hx hb d_Parser_readDeclarations_8 (by decide) ?_
      refine lv_icmp_gt hx hb d_Parser_readDeclarations_10 (tgt := 50) rfl (fun hc => ?_) (fun hc => ?_)
      · have hf := (if_pos hc).symm.trans hf
        refine lv_aload_n hx hb d_Parser_readDeclarations_50 rfl (lv_at hl 0 rfl) ?_
        refine lv_aload_n hx hb d_Parser_readDeclarations_51 rfl (lv_at hl 0 rfl) ?_
        refine zr_get (ci := 2) G hw 7 2 zi_2 rfl rfl rfl (by decide) zm_274 (fun _ h => h) (v := .int (zs_i σ 7 2)) rfl d_Parser_readDeclarations_52 ?_
        obtain ⟨σ2, e_σ2, hf⟩ := zq_ss hf
        refine zr_puti (ci := 2) G hw 7 3 zi_2 t_zd2 t_zd2_ok n_zd2 rfl rfl rfl (by decide) rfl zm_303 (fun _ h => h) rfl (x := (zs_i σ 7 2)) (t_zd2_ok 3 (by decide)) rfl rfl d_Parser_readDeclarations_55 (fun H locs hw => ?_)
        rw [← e_σ2] at hw
        exact zr_vret G hw hr hlocks hf hQ d_Parser_readDeclarations_58
      · have hf := (if_neg hc).symm.trans hf
        refine lv_aload_n hx hb d_Parser_readDeclarations_13 rfl (lv_at hl 0 rfl) ?_
        obtain ⟨q3, e_q3, h_q3, hf⟩ := zq_qs hf
        refine zr_get (ci := 2) G hw 7 6 zi_2 rfl rfl rfl (by decide) zm_263 (fun _ h => h) (v := .ref (ad q3)) (zs_fr rfl e_q3 h_q3) d_Parser_readDeclarations_14 ?_
        refine va_gets (C := "ScheduleCheck$Token") (n := "VAR") (d := "LScheduleCheck$Token;") (v := .ref (ad 1005)) hx hb ((G.2.2.2.1 rfl).1.1 5 (by decide)).1 hw.2.2 hown (hts _ zm_304) (fun _ h => h) d_Parser_readDeclarations_17 ?_
        obtain ⟨hm4, hf⟩ := zq_gs hf
        refine zr_ane G (of_decide_eq_true hm4) (by decide) d_Parser_readDeclarations_20 (tgt := 30) rfl (fun hc => ?_) (fun hc => ?_)
        · have hf := (if_neg hc).symm.trans hf
          refine lv_aload_n hx hb d_Parser_readDeclarations_30 rfl (lv_at hl 0 rfl) ?_
          obtain ⟨q5, e_q5, h_q5, hf⟩ := zq_qs hf
          refine zr_get (ci := 2) G hw 7 6 zi_2 rfl rfl rfl (by decide) zm_263 (fun _ h => h) (v := .ref (ad q5)) (zs_fr rfl e_q5 h_q5) d_Parser_readDeclarations_31 ?_
          refine va_gets (C := "ScheduleCheck$Token") (n := "LOCK") (d := "LScheduleCheck$Token;") (v := .ref (ad 1006)) hx hb ((G.2.2.2.1 rfl).1.1 6 (by decide)).1 hw.2.2 hown (hts _ zm_305) (fun _ h => h) d_Parser_readDeclarations_34 ?_
          obtain ⟨hm6, hf⟩ := zq_gs hf
          refine zr_ane G (of_decide_eq_true hm6) (by decide) d_Parser_readDeclarations_37 (tgt := 44) rfl (fun hc => ?_) (fun hc => ?_)
          · have hf := (if_neg hc).symm.trans hf
            exact K44 (zf_Parser_readDeclarations_7 F n) ih x1 σ H locs ls hf hw (lv_sub hl [0, 1] rfl)
          · have hf := (if_pos hc).symm.trans hf
            refine lv_aload_n hx hb d_Parser_readDeclarations_40 rfl (lv_at hl 0 rfl) ?_
            obtain ⟨σ7, hc9, hf⟩ := zq_ds hf
            refine zr_cv hw (zr_runV (rest := []) (ci := 2) (o := 7) G hw [] (zc_Parser_readLock hJ hc9) (cwV 0 hts (zs_gV zm_307 zm_308 zm_309 zm_269 zm_306) rfl rfl rfl (by decide +kernel) ⟨Nat.le_trans (by decide) hR1, Nat.le_trans (by decide) hR2⟩) rfl rfl rfl hl.1 (Nat.le_of_ble_eq_true rfl) d_Parser_readDeclarations_41 ⟨Nat.zero_le _, Nat.zero_le _⟩) (fun H locs hw => ?_)
            exact K44 (zf_Parser_readDeclarations_7 F n) ih x1 σ7 H locs ls hf hw (lv_sub hl [0, 1] rfl)
        · have hf := (if_pos hc).symm.trans hf
          refine lv_aload_n hx hb d_Parser_readDeclarations_23 rfl (lv_at hl 0 rfl) ?_
          obtain ⟨σ10, hc12, hf⟩ := zq_ds hf
          refine zr_cv hw (zr_runV (rest := []) (ci := 2) (o := 7) G hw [] (zc_Parser_readVariable hJ hc12) (cwV 0 hts (zs_gV zm_311 zm_312 zm_313 zm_269 zm_310) rfl rfl rfl (by decide +kernel) ⟨Nat.le_trans (by decide) hR1, Nat.le_trans (by decide) hR2⟩) rfl rfl rfl hl.1 (Nat.le_of_ble_eq_true rfl) d_Parser_readDeclarations_24 ⟨Nat.zero_le _, Nat.zero_le _⟩) (fun H locs hw => ?_)
          refine lv_goto hx hb d_Parser_readDeclarations_27 (tgt := 44) rfl ?_
          exact K44 (zf_Parser_readDeclarations_7 F n) ih x1 σ10 H locs ls hf hw (lv_sub hl [0, 1] rfl)
  unfold zf_Parser_readDeclarations at hf
  refine lv_aload_n hx hb d_Parser_readDeclarations_0 rfl (lv_at hl 0 rfl) ?_
  refine lv_iconst (v := 0) hx hb d_Parser_readDeclarations_1 (by decide) ?_
  obtain ⟨σ1, e_σ1, hf⟩ := zq_ss hf
  refine zr_puti (ci := 2) G hw 7 2 zi_2 t_zd2 t_zd2_ok n_zd2 rfl rfl rfl (by decide) rfl zm_274 (fun _ h => h) rfl (x := 0) (t_zd2_ok 2 (by decide)) rfl rfl d_Parser_readDeclarations_2 (fun H locs hw => ?_)
  rw [← e_σ1] at hw
  refine lv_iconst (v := 0) hx hb d_Parser_readDeclarations_5 (by decide) ?_
  refine lv_istore_n hx hb d_Parser_readDeclarations_6 rfl hl (by decide) rfl (fun ls hl => ?_)
  have hl : lv_has ls 2 [(1, .int 0), (0, .ref (ad 7))] := hl
  exact K7 F 0 σ1 H locs ls hf hw (lv_sub hl [1, 0] rfl)
/-! ScheduleCheck$Parser.readLocal -/
def y_Parser_readLocal : MethodName := ⟨"ScheduleCheck$Parser","readLocal","(I)V"⟩
theorem d_Parser_readLocal_0 : decode prog_6_method_16_code 0 = .ok (.aload_n 0, 1) := by decide +kernel
theorem d_Parser_readLocal_1 : decode prog_6_method_16_code 1 = .ok (.getfield 37, 3) := by decide +kernel
theorem d_Parser_readLocal_4 : decode prog_6_method_16_code 4 = .ok (.getfield 145, 3) := by decide +kernel
theorem d_Parser_readLocal_7 : decode prog_6_method_16_code 7 = .ok (.iload_n 1, 1) := by decide +kernel
theorem d_Parser_readLocal_8 : decode prog_6_method_16_code 8 = .ok (.iaload, 1) := by decide +kernel
theorem d_Parser_readLocal_9 : decode prog_6_method_16_code 9 = .ok (.istore_n 2, 1) := by decide +kernel
theorem d_Parser_readLocal_10 : decode prog_6_method_16_code 10 = .ok (.aload_n 0, 1) := by decide +kernel
theorem d_Parser_readLocal_11 : decode prog_6_method_16_code 11 = .ok (.invokevirtual 78, 3) := by decide +kernel
theorem d_Parser_readLocal_14 : decode prog_6_method_16_code 14 = .ok (.aload_n 0, 1) := by decide +kernel
theorem d_Parser_readLocal_15 : decode prog_6_method_16_code 15 = .ok (.iload_n 2, 1) := by decide +kernel
theorem d_Parser_readLocal_16 : decode prog_6_method_16_code 16 = .ok (.iconst 3, 1) := by decide +kernel
theorem d_Parser_readLocal_17 : decode prog_6_method_16_code 17 = .ok (.if_icmp .ge 7, 3) := by decide +kernel
theorem d_Parser_readLocal_20 : decode prog_6_method_16_code 20 = .ok (.iconst 1, 1) := by decide +kernel
theorem d_Parser_readLocal_21 : decode prog_6_method_16_code 21 = .ok (.goto 4, 3) := by decide +kernel
theorem d_Parser_readLocal_24 : decode prog_6_method_16_code 24 = .ok (.iconst 0, 1) := by decide +kernel
theorem d_Parser_readLocal_25 : decode prog_6_method_16_code 25 = .ok (.aload_n 0, 1) := by decide +kernel
theorem d_Parser_readLocal_26 : decode prog_6_method_16_code 26 = .ok (.getfield 96, 3) := by decide +kernel
theorem d_Parser_readLocal_29 : decode prog_6_method_16_code 29 = .ok (.iload_n 1, 1) := by decide +kernel
theorem d_Parser_readLocal_30 : decode prog_6_method_16_code 30 = .ok (.iload_n 2, 1) := by decide +kernel
theorem d_Parser_readLocal_31 : decode prog_6_method_16_code 31 = .ok (.invokestatic 171, 3) := by decide +kernel
theorem d_Parser_readLocal_34 : decode prog_6_method_16_code 34 = .ok (.invokevirtual 102, 3) := by decide +kernel
theorem d_Parser_readLocal_37 : decode prog_6_method_16_code 37 = .ok (.ifCond .eq 23, 3) := by decide +kernel
theorem d_Parser_readLocal_40 : decode prog_6_method_16_code 40 = .ok (.aload_n 0, 1) := by decide +kernel
theorem d_Parser_readLocal_41 : decode prog_6_method_16_code 41 = .ok (.getfield 37, 3) := by decide +kernel
theorem d_Parser_readLocal_44 : decode prog_6_method_16_code 44 = .ok (.getfield 145, 3) := by decide +kernel
theorem d_Parser_readLocal_47 : decode prog_6_method_16_code 47 = .ok (.iload_n 1, 1) := by decide +kernel
theorem d_Parser_readLocal_48 : decode prog_6_method_16_code 48 = .ok (.dup2, 1) := by decide +kernel
theorem d_Parser_readLocal_49 : decode prog_6_method_16_code 49 = .ok (.iaload, 1) := by decide +kernel
theorem d_Parser_readLocal_50 : decode prog_6_method_16_code 50 = .ok (.iconst 1, 1) := by decide +kernel
theorem d_Parser_readLocal_51 : decode prog_6_method_16_code 51 = .ok (.iadd, 1) := by decide +kernel
theorem d_Parser_readLocal_52 : decode prog_6_method_16_code 52 = .ok (.iastore, 1) := by decide +kernel
theorem d_Parser_readLocal_53 : decode prog_6_method_16_code 53 = .ok (.aload_n 0, 1) := by decide +kernel
theorem d_Parser_readLocal_54 : decode prog_6_method_16_code 54 = .ok (.getstatic 113, 3) := by decide +kernel
theorem d_Parser_readLocal_57 : decode prog_6_method_16_code 57 = .ok (.invokevirtual 116, 3) := by decide +kernel
theorem d_Parser_readLocal_60 : decode prog_6_method_16_code 60 = .ok (.return_, 1) := by decide +kernel
def zf_Parser_readLocal_60 (F : Nat)   (σ : zs_S) : Option (zs_S) :=
  some σ
def zf_Parser_readLocal_25 (F : Nat)  (x1 : Int32) (x2 : Int32) (t0 : Int32) (σ : zs_S) : Option (zs_S) :=
  zq_c (zf_S_localCell F x1 x2 σ) fun r11 σ10 =>
  zq_c (zf_Parser_declare F t0 (zs_i σ 7 3) r11 σ10) fun r14 σ13 =>
  if r14 = 0 then (
    zf_Parser_readLocal_60 F σ13
  ) else (
    zq_q (zs_r σ13 7 7) fun q16 =>
    zq_g (zq_k 0 q16 15) <|
    zq_q (zd_rf 0 q16 5) fun q18 =>
    zq_g (zq_k 0 q18 0) <|
    zq_g (zq_b x1 (zd_sh 0 q18).2) <|
    zq_g (zq_b x1 (zd_sh 0 q18).2) <|
    zq_v (zs_wi σ13 q18 ((x1).toNatClampNeg) ((zs_i σ13 q18 (x1).toNatClampNeg) + 1)) fun σ22 =>
    zq_d (zf_Parser_expect F 1023 σ22) fun σ23 =>
    zf_Parser_readLocal_60 F σ23
  )
def zf_Parser_readLocal (F : Nat) (x1 : Int32) (σ : zs_S) : Option (zs_S) :=
  zq_q (zs_r σ 7 7) fun q1 =>
  zq_g (zq_k 0 q1 15) <|
  zq_q (zd_rf 0 q1 5) fun q3 =>
  zq_g (zq_k 0 q3 0) <|
  zq_g (zq_b x1 (zd_sh 0 q3).2) <|
  zq_v (zs_i σ q3 (x1).toNatClampNeg) fun v6 =>
  zq_d (zf_Parser_advance F σ) fun σ7 =>
  if 3 ≤ v6 then (
    zf_Parser_readLocal_25 F x1 v6 0 σ7
  ) else (
    zf_Parser_readLocal_25 F x1 v6 1 σ7
  )
set_option maxHeartbeats 4000000 in
set_option maxRecDepth 100000 in
theorem zc_Parser_readLocal {l : Launch} {D : va_G} {cA : Nat → ClassId} {ad : Nat → Nat} {A : Nat → Prop} {F : Nat} {x1 : Int32} {σ : zs_S} {q : zs_S} (hJ : zs_J ad) (hf : zf_Parser_readLocal F x1 σ = some q) : Met l y_Parser_readLocal (.code y_Parser_readLocal prog_6_method_16_code 3 none :: zd_ww) { frames := 2, cells := 0, slots := 0, locals := 45 } (va_Pc [.ref (ad 7), .int x1] (zs_U 0 D cA ad A σ)) (zs_Qv 0 D cA ad A q) 0 0 A := by
  refine Met.ofW (cc := prog_6_method_16_code) (maxL := 3) (ret := none) (by decide) rfl ?_
  intro p e s m args below meth c s₁ B hml hv
  obtain ⟨hargs, hP, hK, hD, hZ⟩ := hv
  have G : zs_G 0 p s m args c prog_6_method_16_code 3 "ScheduleCheck$Parser" D cA ad A := ⟨⟨B.exec, B.bytes, hml, findClass_of_methodNamed B.named, fun w h => atoms_spec B.pre w (List.mem_cons_of_mem _ h)⟩, hK, hJ, hZ⟩
  have hw : zs_I 0 D cA ad A s σ s.heap [] := ⟨hP, hD, va_S.rf⟩
  have hx := G.1.1
  have hb := G.1.2.1
  have hown := G.1.2.2.2.1
  have hts := G.1.2.2.2.2
  have hr := B.returns
  have hlocks := B.notSynchronized
  have he : entryFrame m args 3 = F0 m 0 ((lg_sl [.ref (ad 7), .int x1] ++ List.replicate (3 - (lg_sl [.ref (ad 7), .int x1]).length) Slot.unset).toArray) [] := by rw [hargs]; exact lg_entry_eq m _ 3
  have hl := lv_entry [.ref (ad 7), .int x1] (n := 3) (Nat.le_of_ble_eq_true rfl)
  rw [he]
  generalize (lg_sl [.ref (ad 7), .int x1] ++ List.replicate (3 - (lg_sl [.ref (ad 7), .int x1]).length) Slot.unset).toArray = ls at hl
  have hl : lv_has ls 3 [(0, .ref (ad 7)), (1, .int x1)] := hl
  obtain ⟨RR, hR⟩ : ∃ z, z = (headSpec (.code y_Parser_readLocal prog_6_method_16_code 3 none :: zd_ww) { frames := 2, cells := 0, slots := 0, locals := 45 }).room := ⟨_, rfl⟩
  rw [← hR]
  obtain ⟨QQ, hQ⟩ : ∃ z, z = MQ below (zs_Qv 0 D cA ad A q) args s 0 0 A := ⟨_, rfl⟩
  rw [← hQ]
  have hR1 : 2 ≤ RR.frames := by rw [hR]; exact Nat.le_refl _
  have hR2 : 45 ≤ RR.locals := by rw [hR]; exact Nat.le_refl _
  generalize s.heap = H at hw ⊢
  generalize ([] : List Loc) = locs at hw ⊢
  have K60 : ∀ (σ : zs_S) (H : Heap) (locs : List Loc) (ls : Array Slot), zf_Parser_readLocal_60 F σ = some q → zs_I 0 D cA ad A s σ H locs → lv_has ls 3 [] → W p l e RR s m args below meth c H locs 0 0 QQ (F0 m 60 ls []) := by
    intro   σ H locs ls hf hw hl
    unfold zf_Parser_readLocal_60 at hf
    exact zr_vret G hw hr hlocks hf hQ d_Parser_readLocal_60
  have K25 : ∀ (x1 : Int32) (x2 : Int32) (t0 : Int32) (σ : zs_S) (H : Heap) (locs : List Loc) (ls : Array Slot), zf_Parser_readLocal_25 F x1 x2 t0 σ = some q → zs_I 0 D cA ad A s σ H locs → lv_has ls 3 [(0, .ref (ad 7)), (1, .int x1), (2, .int x2)] → W p l e RR s m args below meth c H locs 0 0 QQ (F0 m 25 ls [.int t0, .ref (ad 7)]) := by
    intro  x1 x2 t0 σ H locs ls hf hw hl
    unfold zf_Parser_readLocal_25 at hf
    refine lv_aload_n hx hb d_Parser_readLocal_25 rfl (lv_at hl 0 rfl) ?_
    refine zr_get (ci := 2) G hw 7 3 zi_2 rfl rfl rfl (by decide) zm_303 (fun _ h => h) (v := .int (zs_i σ 7 3)) rfl d_Parser_readLocal_26 ?_
    refine lv_iload_n hx hb d_Parser_readLocal_29 rfl (lv_at hl 1 rfl) ?_
    refine lv_iload_n hx hb d_Parser_readLocal_30 rfl (lv_at hl 2 rfl) ?_
    obtain ⟨r11, σ10, hc12, hf⟩ := zq_cs hf
    refine zr_ci hw (zr_runSN (rest := [.int (zs_i σ 7 3), .int t0, .ref (ad 7)]) G hw [.int x1, .int x2] (zc_S_localCell hJ hc12) ⟨va_cnB 2 hts (zs_gC zm_315) rfl rfl rfl (G.2.2.2.1 rfl).2.2.2.2.2.2.2.2.2 (hts _ zm_316) (by decide +kernel) ⟨Nat.le_trans (by decide) hR1, Nat.le_trans (by decide) hR2⟩, hts _ zm_317, trivial⟩ rfl hl.1 (Nat.le_of_ble_eq_true rfl) d_Parser_readLocal_31 ⟨Nat.zero_le _, Nat.zero_le _⟩) (fun H locs hw => ?_)
    obtain ⟨r14, σ13, hc15, hf⟩ := zq_cs hf
    refine zr_ci hw (zr_runV (rest := []) (ci := 2) (o := 7) G hw [.int t0, .int (zs_i σ 7 3), .int r11] (zc_Parser_declare hJ hc15) (cwV 3 hts (zs_gV zm_293 zm_294 zm_295 zm_269 zm_292) rfl rfl rfl (by decide +kernel) ⟨Nat.le_trans (by decide) hR1, Nat.le_trans (by decide) hR2⟩) rfl rfl rfl hl.1 (Nat.le_of_ble_eq_true rfl) d_Parser_readLocal_34 ⟨Nat.zero_le _, Nat.zero_le _⟩) (fun H locs hw => ?_)
    refine lv_if_eq hx hb d_Parser_readLocal_37 (tgt := 60) rfl (fun hc => ?_) (fun hc => ?_)
    · have hf := (if_pos hc).symm.trans hf
      exact K60 σ13 H locs ls hf hw (lv_sub hl [] rfl)
    · have hf := (if_neg hc).symm.trans hf
      refine lv_aload_n hx hb d_Parser_readLocal_40 rfl (lv_at hl 0 rfl) ?_
      obtain ⟨q16, e_q16, h_q16, hf⟩ := zq_qs hf
      refine zr_get (ci := 2) G hw 7 7 zi_2 rfl rfl rfl (by decide) zm_290 (fun _ h => h) (v := .ref (ad q16)) (zs_fr rfl e_q16 h_q16) d_Parser_readLocal_41 ?_
      obtain ⟨hs17, hf⟩ := zq_gs hf
      have hs17 := zq_ks hs17
      obtain ⟨q18, e_q18, h_q18, hf⟩ := zq_qs hf
      refine zr_get (ci := 5) G hw q16 5 zi_5 hs17 rfl rfl (by decide) zm_314 (fun _ h => h) (v := .ref (ad q18)) (zs_fs rfl e_q18 h_q18) d_Parser_readLocal_44 ?_
      refine lv_iload_n hx hb d_Parser_readLocal_47 rfl (lv_at hl 1 rfl) ?_
      refine lv_dup2_11 hx hb d_Parser_readLocal_48 rfl rfl ?_
      obtain ⟨hs19, hf⟩ := zq_gs hf
      have hs19 := zq_ks hs19
      obtain ⟨hi20, hf⟩ := zq_gs hf
      refine zr_iald G hw q18 hs19 rfl hi20 d_Parser_readLocal_49 ?_
      refine lv_iconst (v := 1) hx hb d_Parser_readLocal_50 (by decide) ?_
      refine lv_iadd hx hb d_Parser_readLocal_51 ?_
      obtain ⟨hi21, hf⟩ := zq_gs hf
      obtain ⟨σ22, e_σ22, hf⟩ := zq_ss hf
      refine zr_iast G hw q18 hs19 rfl  hi21  d_Parser_readLocal_52 (fun H locs hw => ?_)
      rw [← e_σ22] at hw
      refine lv_aload_n hx hb d_Parser_readLocal_53 rfl (lv_at hl 0 rfl) ?_
      refine va_gets (C := "ScheduleCheck$Token") (n := "SEMICOLON") (d := "LScheduleCheck$Token;") (v := .ref (ad 1023)) hx hb ((G.2.2.2.1 rfl).1.1 23 (by decide)).1 hw.2.2 hown (hts _ zm_301) (fun _ h => h) d_Parser_readLocal_54 ?_
      obtain ⟨σ23, hc25, hf⟩ := zq_ds hf
      refine zr_cv hw (zr_runV (rest := []) (ci := 2) (o := 7) G hw [.ref (ad 1023)] (zc_Parser_expect hJ hc25) (cwV 1 hts (zs_gV zm_287 zm_288 zm_289 zm_269 zm_286) rfl rfl rfl (by decide +kernel) ⟨Nat.le_trans (by decide) hR1, Nat.le_trans (by decide) hR2⟩) rfl rfl rfl hl.1 (Nat.le_of_ble_eq_true rfl) d_Parser_readLocal_57 ⟨Nat.zero_le _, Nat.zero_le _⟩) (fun H locs hw => ?_)
      exact K60 σ23 H locs ls hf hw (lv_sub hl [] rfl)
  unfold zf_Parser_readLocal at hf
  refine lv_aload_n hx hb d_Parser_readLocal_0 rfl (lv_at hl 0 rfl) ?_
  obtain ⟨q1, e_q1, h_q1, hf⟩ := zq_qs hf
  refine zr_get (ci := 2) G hw 7 7 zi_2 rfl rfl rfl (by decide) zm_290 (fun _ h => h) (v := .ref (ad q1)) (zs_fr rfl e_q1 h_q1) d_Parser_readLocal_1 ?_
  obtain ⟨hs2, hf⟩ := zq_gs hf
  have hs2 := zq_ks hs2
  obtain ⟨q3, e_q3, h_q3, hf⟩ := zq_qs hf
  refine zr_get (ci := 5) G hw q1 5 zi_5 hs2 rfl rfl (by decide) zm_314 (fun _ h => h) (v := .ref (ad q3)) (zs_fs rfl e_q3 h_q3) d_Parser_readLocal_4 ?_
  refine lv_iload_n hx hb d_Parser_readLocal_7 rfl (lv_at hl 1 rfl) ?_
  obtain ⟨hs4, hf⟩ := zq_gs hf
  have hs4 := zq_ks hs4
  obtain ⟨hi5, hf⟩ := zq_gs hf
  refine zr_iald G hw q3 hs4 rfl hi5 d_Parser_readLocal_8 ?_
  refine lv_topi (fun v6 e_v6 => ?_)
  have hf := zq_vs e_v6 hf
  refine lv_istore_n hx hb d_Parser_readLocal_9 rfl hl (by decide) rfl (fun ls hl => ?_)
  have hl : lv_has ls 3 [(2, .int v6), (0, .ref (ad 7)), (1, .int x1)] := hl
  refine lv_aload_n hx hb d_Parser_readLocal_10 rfl (lv_at hl 1 rfl) ?_
  obtain ⟨σ7, hc9, hf⟩ := zq_ds hf
  refine zr_cv hw (zr_runV (rest := []) (ci := 2) (o := 7) G hw [] (zc_Parser_advance hJ hc9) (cwV 0 hts (zs_gV zm_271 zm_272 zm_273 zm_269 zm_270) rfl rfl rfl (by decide +kernel) ⟨Nat.le_trans (by decide) hR1, Nat.le_trans (by decide) hR2⟩) rfl rfl rfl hl.1 (Nat.le_of_ble_eq_true rfl) d_Parser_readLocal_11 ⟨Nat.zero_le _, Nat.zero_le _⟩) (fun H locs hw => ?_)
  refine lv_aload_n hx hb d_Parser_readLocal_14 rfl (lv_at hl 1 rfl) ?_
  refine lv_iload_n hx hb d_Parser_readLocal_15 rfl (lv_at hl 0 rfl) ?_
  refine lv_iconst (v := 3) hx hb d_Parser_readLocal_16 (by decide) ?_
  refine lv_icmp_ge hx hb d_Parser_readLocal_17 (tgt := 24) rfl (fun hc => ?_) (fun hc => ?_)
  · have hf := (if_pos hc).symm.trans hf
    refine lv_iconst (v := 0) hx hb d_Parser_readLocal_24 (by decide) ?_
    exact K25 x1 v6 0 σ7 H locs ls hf hw (lv_sub hl [1, 2, 0] rfl)
  · have hf := (if_neg hc).symm.trans hf
    refine lv_iconst (v := 1) hx hb d_Parser_readLocal_20 (by decide) ?_
    refine lv_goto hx hb d_Parser_readLocal_21 (tgt := 25) rfl ?_
    exact K25 x1 v6 1 σ7 H locs ls hf hw (lv_sub hl [1, 2, 0] rfl)
/-! ScheduleCheck$Parser.readOperand -/
def y_Parser_readOperand : MethodName := ⟨"ScheduleCheck$Parser","readOperand","()V"⟩
theorem d_Parser_readOperand_0 : decode prog_6_method_28_code 0 = .ok (.aload_n 0, 1) := by decide +kernel
theorem d_Parser_readOperand_1 : decode prog_6_method_28_code 1 = .ok (.getfield 33, 3) := by decide +kernel
theorem d_Parser_readOperand_4 : decode prog_6_method_28_code 4 = .ok (.getstatic 135, 3) := by decide +kernel
theorem d_Parser_readOperand_7 : decode prog_6_method_28_code 7 = .ok (.if_acmp .ne 7, 3) := by decide +kernel
theorem d_Parser_readOperand_10 : decode prog_6_method_28_code 10 = .ok (.iconst 1, 1) := by decide +kernel
theorem d_Parser_readOperand_11 : decode prog_6_method_28_code 11 = .ok (.goto 4, 3) := by decide +kernel
theorem d_Parser_readOperand_14 : decode prog_6_method_28_code 14 = .ok (.iconst 0, 1) := by decide +kernel
theorem d_Parser_readOperand_15 : decode prog_6_method_28_code 15 = .ok (.istore_n 1, 1) := by decide +kernel
theorem d_Parser_readOperand_16 : decode prog_6_method_28_code 16 = .ok (.iload_n 1, 1) := by decide +kernel
theorem d_Parser_readOperand_17 : decode prog_6_method_28_code 17 = .ok (.ifCond .eq 11, 3) := by decide +kernel
theorem d_Parser_readOperand_20 : decode prog_6_method_28_code 20 = .ok (.aload_n 0, 1) := by decide +kernel
theorem d_Parser_readOperand_21 : decode prog_6_method_28_code 21 = .ok (.iconst 0, 1) := by decide +kernel
theorem d_Parser_readOperand_22 : decode prog_6_method_28_code 22 = .ok (.invokevirtual 138, 3) := by decide +kernel
theorem d_Parser_readOperand_25 : decode prog_6_method_28_code 25 = .ok (.goto 16, 3) := by decide +kernel
theorem d_Parser_readOperand_28 : decode prog_6_method_28_code 28 = .ok (.aload_n 0, 1) := by decide +kernel
theorem d_Parser_readOperand_29 : decode prog_6_method_28_code 29 = .ok (.getfield 19, 3) := by decide +kernel
theorem d_Parser_readOperand_32 : decode prog_6_method_28_code 32 = .ok (.getfield 126, 3) := by decide +kernel
theorem d_Parser_readOperand_35 : decode prog_6_method_28_code 35 = .ok (.aload_n 0, 1) := by decide +kernel
theorem d_Parser_readOperand_36 : decode prog_6_method_28_code 36 = .ok (.getfield 23, 3) := by decide +kernel
theorem d_Parser_readOperand_39 : decode prog_6_method_28_code 39 = .ok (.laload, 1) := by decide +kernel
theorem d_Parser_readOperand_40 : decode prog_6_method_28_code 40 = .ok (.l2i, 1) := by decide +kernel
theorem d_Parser_readOperand_41 : decode prog_6_method_28_code 41 = .ok (.istore_n 2, 1) := by decide +kernel
theorem d_Parser_readOperand_42 : decode prog_6_method_28_code 42 = .ok (.iload_n 1, 1) := by decide +kernel
theorem d_Parser_readOperand_43 : decode prog_6_method_28_code 43 = .ok (.ifCond .eq 17, 3) := by decide +kernel
theorem d_Parser_readOperand_46 : decode prog_6_method_28_code 46 = .ok (.iload_n 2, 1) := by decide +kernel
theorem d_Parser_readOperand_47 : decode prog_6_method_28_code 47 = .ok (.invokestatic 237, 3) := by decide +kernel
theorem d_Parser_readOperand_50 : decode prog_6_method_28_code 50 = .ok (.ifCond .ne 10, 3) := by decide +kernel
theorem d_Parser_readOperand_53 : decode prog_6_method_28_code 53 = .ok (.iload_n 2, 1) := by decide +kernel
theorem d_Parser_readOperand_54 : decode prog_6_method_28_code 54 = .ok (.invokestatic 241, 3) := by decide +kernel
theorem d_Parser_readOperand_57 : decode prog_6_method_28_code 57 = .ok (.ifCond .eq 7, 3) := by decide +kernel
theorem d_Parser_readOperand_60 : decode prog_6_method_28_code 60 = .ok (.iconst 1, 1) := by decide +kernel
theorem d_Parser_readOperand_61 : decode prog_6_method_28_code 61 = .ok (.goto 4, 3) := by decide +kernel
theorem d_Parser_readOperand_64 : decode prog_6_method_28_code 64 = .ok (.iconst 0, 1) := by decide +kernel
theorem d_Parser_readOperand_65 : decode prog_6_method_28_code 65 = .ok (.istore_n 3, 1) := by decide +kernel
theorem d_Parser_readOperand_66 : decode prog_6_method_28_code 66 = .ok (.iload_n 3, 1) := by decide +kernel
theorem d_Parser_readOperand_67 : decode prog_6_method_28_code 67 = .ok (.ifCond .eq 13, 3) := by decide +kernel
theorem d_Parser_readOperand_70 : decode prog_6_method_28_code 70 = .ok (.aload_n 0, 1) := by decide +kernel
theorem d_Parser_readOperand_71 : decode prog_6_method_28_code 71 = .ok (.getfield 49, 3) := by decide +kernel
theorem d_Parser_readOperand_74 : decode prog_6_method_28_code 74 = .ok (.sipush 150, 3) := by decide +kernel
theorem d_Parser_readOperand_77 : decode prog_6_method_28_code 77 = .ok (.if_icmp .ne 8, 3) := by decide +kernel
theorem d_Parser_readOperand_80 : decode prog_6_method_28_code 80 = .ok (.aload_n 0, 1) := by decide +kernel
theorem d_Parser_readOperand_81 : decode prog_6_method_28_code 81 = .ok (.invokevirtual 66, 3) := by decide +kernel
theorem d_Parser_readOperand_84 : decode prog_6_method_28_code 84 = .ok (.return_, 1) := by decide +kernel
theorem d_Parser_readOperand_85 : decode prog_6_method_28_code 85 = .ok (.aload_n 0, 1) := by decide +kernel
theorem d_Parser_readOperand_86 : decode prog_6_method_28_code 86 = .ok (.dup, 1) := by decide +kernel
theorem d_Parser_readOperand_87 : decode prog_6_method_28_code 87 = .ok (.getfield 49, 3) := by decide +kernel
theorem d_Parser_readOperand_90 : decode prog_6_method_28_code 90 = .ok (.iconst 1, 1) := by decide +kernel
theorem d_Parser_readOperand_91 : decode prog_6_method_28_code 91 = .ok (.iadd, 1) := by decide +kernel
theorem d_Parser_readOperand_92 : decode prog_6_method_28_code 92 = .ok (.putfield 49, 3) := by decide +kernel
theorem d_Parser_readOperand_95 : decode prog_6_method_28_code 95 = .ok (.aload_n 0, 1) := by decide +kernel
theorem d_Parser_readOperand_96 : decode prog_6_method_28_code 96 = .ok (.getfield 37, 3) := by decide +kernel
theorem d_Parser_readOperand_99 : decode prog_6_method_28_code 99 = .ok (.getfield 293, 3) := by decide +kernel
theorem d_Parser_readOperand_102 : decode prog_6_method_28_code 102 = .ok (.aload_n 0, 1) := by decide +kernel
theorem d_Parser_readOperand_103 : decode prog_6_method_28_code 103 = .ok (.getfield 33, 3) := by decide +kernel
theorem d_Parser_readOperand_106 : decode prog_6_method_28_code 106 = .ok (.iload_n 2, 1) := by decide +kernel
theorem d_Parser_readOperand_107 : decode prog_6_method_28_code 107 = .ok (.invokevirtual 315, 3) := by decide +kernel
theorem d_Parser_readOperand_110 : decode prog_6_method_28_code 110 = .ok (.iload_n 1, 1) := by decide +kernel
theorem d_Parser_readOperand_111 : decode prog_6_method_28_code 111 = .ok (.ifCond .eq 22, 3) := by decide +kernel
theorem d_Parser_readOperand_114 : decode prog_6_method_28_code 114 = .ok (.iload_n 2, 1) := by decide +kernel
theorem d_Parser_readOperand_115 : decode prog_6_method_28_code 115 = .ok (.invokestatic 237, 3) := by decide +kernel
theorem d_Parser_readOperand_118 : decode prog_6_method_28_code 118 = .ok (.ifCond .eq 15, 3) := by decide +kernel
theorem d_Parser_readOperand_121 : decode prog_6_method_28_code 121 = .ok (.aload_n 0, 1) := by decide +kernel
theorem d_Parser_readOperand_122 : decode prog_6_method_28_code 122 = .ok (.dup, 1) := by decide +kernel
theorem d_Parser_readOperand_123 : decode prog_6_method_28_code 123 = .ok (.getfield 292, 3) := by decide +kernel
theorem d_Parser_readOperand_126 : decode prog_6_method_28_code 126 = .ok (.iconst 1, 1) := by decide +kernel
theorem d_Parser_readOperand_127 : decode prog_6_method_28_code 127 = .ok (.iload_n 2, 1) := by decide +kernel
theorem d_Parser_readOperand_128 : decode prog_6_method_28_code 128 = .ok (.ishl, 1) := by decide +kernel
theorem d_Parser_readOperand_129 : decode prog_6_method_28_code 129 = .ok (.ior, 1) := by decide +kernel
theorem d_Parser_readOperand_130 : decode prog_6_method_28_code 130 = .ok (.putfield 292, 3) := by decide +kernel
theorem d_Parser_readOperand_133 : decode prog_6_method_28_code 133 = .ok (.aload_n 0, 1) := by decide +kernel
theorem d_Parser_readOperand_134 : decode prog_6_method_28_code 134 = .ok (.invokevirtual 78, 3) := by decide +kernel
theorem d_Parser_readOperand_137 : decode prog_6_method_28_code 137 = .ok (.return_, 1) := by decide +kernel
def zf_Parser_readOperand_133 (F : Nat)   (σ : zs_S) : Option (zs_S) :=
  zq_d (zf_Parser_advance F σ) fun σ33 =>
  some σ33
def zf_Parser_readOperand_80 (F : Nat)   (σ : zs_S) : Option (zs_S) :=
  zq_d (zf_Parser_fail F σ) fun σ30 =>
  some σ30
def zf_Parser_readOperand_65 (F : Nat)  (x1 : Int32) (x2 : Int32) (t0 : Int32) (σ : zs_S) : Option (zs_S) :=
  if t0 = 0 then (
    zf_Parser_readOperand_80 F σ
  ) else (
    if (zs_i σ 7 9) = 150 then (
      zf_Parser_readOperand_80 F σ
    ) else (
      zq_v (zs_wi σ 7 9 ((zs_i σ 7 9) + 1)) fun σ17 =>
      zq_q (zs_r σ17 7 7) fun q18 =>
      zq_g (zq_k 0 q18 15) <|
      zq_q (zd_rf 0 q18 8) fun q20 =>
      zq_q (zs_r σ17 7 6) fun q21 =>
      zq_g (zq_k 0 q20 17) <|
      zq_d (zf_Code_add F q20 q21 x2 σ17) fun σ22 =>
      if x1 = 0 then (
        zf_Parser_readOperand_133 F σ22
      ) else (
        zq_c (zf_Parser_isVariable F x2 σ22) fun r27 σ26 =>
        if r27 = 0 then (
          zf_Parser_readOperand_133 F σ26
        ) else (
          zq_v (zs_wi σ26 7 10 ((zs_i σ26 7 10) ||| (1 <<< (x2 &&& 31)))) fun σ29 =>
          zf_Parser_readOperand_133 F σ29
        )
      )
    )
  )
def zf_Parser_readOperand_60 (F : Nat)  (x1 : Int32) (x2 : Int32) (σ : zs_S) : Option (zs_S) :=
  zf_Parser_readOperand_65 F x1 x2 1 σ
def zf_Parser_readOperand_41 (F : Nat)  (x1 : Int32) (t0 : Int32) (σ : zs_S) : Option (zs_S) :=
  if x1 = 0 then (
    zf_Parser_readOperand_60 F x1 t0 σ
  ) else (
    zq_c (zf_Parser_isVariable F t0 σ) fun r12 σ11 =>
    if r12 = 0 then (
      zq_c (zf_Parser_isLocal F t0 σ11) fun r15 σ14 =>
      if r15 = 0 then (
        zf_Parser_readOperand_65 F x1 t0 0 σ14
      ) else (
        zf_Parser_readOperand_60 F x1 t0 σ14
      )
    ) else (
      zf_Parser_readOperand_60 F x1 t0 σ11
    )
  )
def zf_Parser_readOperand_15 (F : Nat)  (t0 : Int32) (σ : zs_S) : Option (zs_S) :=
  if t0 = 0 then (
    zq_q (zs_r σ 7 4) fun q3 =>
    zq_g (zq_k 0 q3 11) <|
    zq_q (zd_rf 0 q3 2) fun q5 =>
    zq_g (zq_k 0 q5 3) <|
    zq_g (zq_b (zs_i σ 7 5) (zd_sh 0 q5).2) <|
    zf_Parser_readOperand_41 F t0 (((zs_l σ q5 (zs_i σ 7 5).toNatClampNeg : Int64)).toInt32) σ
  ) else (
    zq_c (zf_Parser_find F 0 σ) fun r9 σ8 =>
    zf_Parser_readOperand_41 F t0 r9 σ8
  )
def zf_Parser_readOperand (F : Nat)  (σ : zs_S) : Option (zs_S) :=
  zq_q (zs_r σ 7 6) fun q1 =>
  zq_g (decide (q1 < 1200)) <|
  if q1 = 1002 then (
    zf_Parser_readOperand_15 F 1 σ
  ) else (
    zf_Parser_readOperand_15 F 0 σ
  )
set_option maxHeartbeats 4000000 in
set_option maxRecDepth 100000 in
theorem zc_Parser_readOperand {l : Launch} {D : va_G} {cA : Nat → ClassId} {ad : Nat → Nat} {A : Nat → Prop} {F : Nat}  {σ : zs_S} {q : zs_S} (hJ : zs_J ad) (hf : zf_Parser_readOperand F  σ = some q) : Met l y_Parser_readOperand (.code y_Parser_readOperand prog_6_method_28_code 4 none :: zd_ww) { frames := 1, cells := 0, slots := 0, locals := 22 } (va_Pc [.ref (ad 7)] (zs_U 0 D cA ad A σ)) (zs_Qv 0 D cA ad A q) 0 0 A := by
  refine Met.ofW (cc := prog_6_method_28_code) (maxL := 4) (ret := none) (by decide) rfl ?_
  intro p e s m args below meth c s₁ B hml hv
  obtain ⟨hargs, hP, hK, hD, hZ⟩ := hv
  have G : zs_G 0 p s m args c prog_6_method_28_code 4 "ScheduleCheck$Parser" D cA ad A := ⟨⟨B.exec, B.bytes, hml, findClass_of_methodNamed B.named, fun w h => atoms_spec B.pre w (List.mem_cons_of_mem _ h)⟩, hK, hJ, hZ⟩
  have hw : zs_I 0 D cA ad A s σ s.heap [] := ⟨hP, hD, va_S.rf⟩
  have hx := G.1.1
  have hb := G.1.2.1
  have hown := G.1.2.2.2.1
  have hts := G.1.2.2.2.2
  have hr := B.returns
  have hlocks := B.notSynchronized
  have he : entryFrame m args 4 = F0 m 0 ((lg_sl [.ref (ad 7)] ++ List.replicate (4 - (lg_sl [.ref (ad 7)]).length) Slot.unset).toArray) [] := by rw [hargs]; exact lg_entry_eq m _ 4
  have hl := lv_entry [.ref (ad 7)] (n := 4) (Nat.le_of_ble_eq_true rfl)
  rw [he]
  generalize (lg_sl [.ref (ad 7)] ++ List.replicate (4 - (lg_sl [.ref (ad 7)]).length) Slot.unset).toArray = ls at hl
  have hl : lv_has ls 4 [(0, .ref (ad 7))] := hl
  obtain ⟨RR, hR⟩ : ∃ z, z = (headSpec (.code y_Parser_readOperand prog_6_method_28_code 4 none :: zd_ww) { frames := 1, cells := 0, slots := 0, locals := 22 }).room := ⟨_, rfl⟩
  rw [← hR]
  obtain ⟨QQ, hQ⟩ : ∃ z, z = MQ below (zs_Qv 0 D cA ad A q) args s 0 0 A := ⟨_, rfl⟩
  rw [← hQ]
  have hR1 : 1 ≤ RR.frames := by rw [hR]; exact Nat.le_refl _
  have hR2 : 22 ≤ RR.locals := by rw [hR]; exact Nat.le_refl _
  generalize s.heap = H at hw ⊢
  generalize ([] : List Loc) = locs at hw ⊢
  have K133 : ∀ (σ : zs_S) (H : Heap) (locs : List Loc) (ls : Array Slot), zf_Parser_readOperand_133 F σ = some q → zs_I 0 D cA ad A s σ H locs → lv_has ls 4 [(0, .ref (ad 7))] → W p l e RR s m args below meth c H locs 0 0 QQ (F0 m 133 ls []) := by
    intro   σ H locs ls hf hw hl
    unfold zf_Parser_readOperand_133 at hf
    refine lv_aload_n hx hb d_Parser_readOperand_133 rfl (lv_at hl 0 rfl) ?_
    obtain ⟨σ33, hc35, hf⟩ := zq_ds hf
    refine zr_cv hw (zr_runV (rest := []) (ci := 2) (o := 7) G hw [] (zc_Parser_advance hJ hc35) (cwV 0 hts (zs_gV zm_271 zm_272 zm_273 zm_269 zm_270) rfl rfl rfl (by decide +kernel) ⟨Nat.le_trans (by decide) hR1, Nat.le_trans (by decide) hR2⟩) rfl rfl rfl hl.1 (Nat.le_of_ble_eq_true rfl) d_Parser_readOperand_134 ⟨Nat.zero_le _, Nat.zero_le _⟩) (fun H locs hw => ?_)
    exact zr_vret G hw hr hlocks hf hQ d_Parser_readOperand_137
  have K80 : ∀ (σ : zs_S) (H : Heap) (locs : List Loc) (ls : Array Slot), zf_Parser_readOperand_80 F σ = some q → zs_I 0 D cA ad A s σ H locs → lv_has ls 4 [(0, .ref (ad 7))] → W p l e RR s m args below meth c H locs 0 0 QQ (F0 m 80 ls []) := by
    intro   σ H locs ls hf hw hl
    unfold zf_Parser_readOperand_80 at hf
    refine lv_aload_n hx hb d_Parser_readOperand_80 rfl (lv_at hl 0 rfl) ?_
    obtain ⟨σ30, hc32, hf⟩ := zq_ds hf
    refine zr_cv hw (zr_runV (rest := []) (ci := 2) (o := 7) G hw [] (zc_Parser_fail hJ hc32) (cwV 0 hts (zs_gV zm_266 zm_267 zm_268 zm_269 zm_265) rfl rfl rfl (by decide +kernel) ⟨Nat.le_trans (by decide) hR1, Nat.le_trans (by decide) hR2⟩) rfl rfl rfl hl.1 (Nat.le_of_ble_eq_true rfl) d_Parser_readOperand_81 ⟨Nat.zero_le _, Nat.zero_le _⟩) (fun H locs hw => ?_)
    exact zr_vret G hw hr hlocks hf hQ d_Parser_readOperand_84
  have K65 : ∀ (x1 : Int32) (x2 : Int32) (t0 : Int32) (σ : zs_S) (H : Heap) (locs : List Loc) (ls : Array Slot), zf_Parser_readOperand_65 F x1 x2 t0 σ = some q → zs_I 0 D cA ad A s σ H locs → lv_has ls 4 [(0, .ref (ad 7)), (1, .int x1), (2, .int x2)] → W p l e RR s m args below meth c H locs 0 0 QQ (F0 m 65 ls [.int t0]) := by
    intro  x1 x2 t0 σ H locs ls hf hw hl
    unfold zf_Parser_readOperand_65 at hf
    refine lv_istore_n hx hb d_Parser_readOperand_65 rfl hl (by decide) rfl (fun ls hl => ?_)
    have hl : lv_has ls 4 [(3, .int t0), (0, .ref (ad 7)), (1, .int x1), (2, .int x2)] := hl
    refine lv_iload_n hx hb d_Parser_readOperand_66 rfl (lv_at hl 0 rfl) ?_
    refine lv_if_eq hx hb d_Parser_readOperand_67 (tgt := 80) rfl (fun hc => ?_) (fun hc => ?_)
    · have hf := (if_pos hc).symm.trans hf
      exact K80 σ H locs ls hf hw (lv_sub hl [1] rfl)
    · have hf := (if_neg hc).symm.trans hf
      refine lv_aload_n hx hb d_Parser_readOperand_70 rfl (lv_at hl 1 rfl) ?_
      refine zr_get (ci := 2) G hw 7 9 zi_2 rfl rfl rfl (by decide) zm_324 (fun _ h => h) (v := .int (zs_i σ 7 9)) rfl d_Parser_readOperand_71 ?_
      refine lv_sipush (v := 150) hx hb d_Parser_readOperand_74 (by decide) ?_
      refine lv_icmp_ne hx hb d_Parser_readOperand_77 (tgt := 85) rfl (fun hc => ?_) (fun hc => ?_)
      · have hf := (if_neg hc).symm.trans hf
        refine lv_aload_n hx hb d_Parser_readOperand_85 rfl (lv_at hl 1 rfl) ?_
        refine lv_dup hx hb d_Parser_readOperand_86 rfl ?_
        refine zr_get (ci := 2) G hw 7 9 zi_2 rfl rfl rfl (by decide) zm_324 (fun _ h => h) (v := .int (zs_i σ 7 9)) rfl d_Parser_readOperand_87 ?_
        refine lv_iconst (v := 1) hx hb d_Parser_readOperand_90 (by decide) ?_
        refine lv_iadd hx hb d_Parser_readOperand_91 ?_
        obtain ⟨σ17, e_σ17, hf⟩ := zq_ss hf
        refine zr_puti (ci := 2) G hw 7 9 zi_2 t_zd2 t_zd2_ok n_zd2 rfl rfl rfl (by decide) rfl zm_324 (fun _ h => h) rfl (x := ((zs_i σ 7 9) + 1)) (t_zd2_ok 9 (by decide)) rfl rfl d_Parser_readOperand_92 (fun H locs hw => ?_)
        rw [← e_σ17] at hw
        refine lv_aload_n hx hb d_Parser_readOperand_95 rfl (lv_at hl 1 rfl) ?_
        obtain ⟨q18, e_q18, h_q18, hf⟩ := zq_qs hf
        refine zr_get (ci := 2) G hw 7 7 zi_2 rfl rfl rfl (by decide) zm_290 (fun _ h => h) (v := .ref (ad q18)) (zs_fr rfl e_q18 h_q18) d_Parser_readOperand_96 ?_
        obtain ⟨hs19, hf⟩ := zq_gs hf
        have hs19 := zq_ks hs19
        obtain ⟨q20, e_q20, h_q20, hf⟩ := zq_qs hf
        refine zr_get (ci := 5) G hw q18 8 zi_5 hs19 rfl rfl (by decide) zm_325 (fun _ h => h) (v := .ref (ad q20)) (zs_fs rfl e_q20 h_q20) d_Parser_readOperand_99 ?_
        refine lv_aload_n hx hb d_Parser_readOperand_102 rfl (lv_at hl 1 rfl) ?_
        obtain ⟨q21, e_q21, h_q21, hf⟩ := zq_qs hf
        refine zr_get (ci := 2) G hw 7 6 zi_2 rfl rfl rfl (by decide) zm_263 (fun _ h => h) (v := .ref (ad q21)) (zs_fr rfl e_q21 h_q21) d_Parser_readOperand_103 ?_
        refine lv_iload_n hx hb d_Parser_readOperand_106 rfl (lv_at hl 3 rfl) ?_
        obtain ⟨hs25, hf⟩ := zq_gs hf
        have hs25 := zq_ks hs25
        obtain ⟨σ22, hc24, hf⟩ := zq_ds hf
        refine zr_cv hw (zr_runV (rest := []) (ci := 7) (o := q20) G hw [.ref (ad q21), .int x2] (zc_Code_add hJ hc24) (cwV 2 hts (zs_gV zm_327 zm_328 zm_329 zm_132 zm_326) rfl rfl rfl (by decide +kernel) ⟨Nat.le_trans (by decide) hR1, Nat.le_trans (by decide) hR2⟩) hs25 rfl rfl hl.1 (Nat.le_of_ble_eq_true rfl) d_Parser_readOperand_107 ⟨Nat.zero_le _, Nat.zero_le _⟩) (fun H locs hw => ?_)
        refine lv_iload_n hx hb d_Parser_readOperand_110 rfl (lv_at hl 2 rfl) ?_
        refine lv_if_eq hx hb d_Parser_readOperand_111 (tgt := 133) rfl (fun hc => ?_) (fun hc => ?_)
        · have hf := (if_pos hc).symm.trans hf
          exact K133 σ22 H locs ls hf hw (lv_sub hl [1] rfl)
        · have hf := (if_neg hc).symm.trans hf
          refine lv_iload_n hx hb d_Parser_readOperand_114 rfl (lv_at hl 3 rfl) ?_
          obtain ⟨r27, σ26, hc28, hf⟩ := zq_cs hf
          refine zr_ci hw (zr_runS (rest := []) G hw [.int x2] (zc_Parser_isVariable hJ hc28) (va_cwS 1 hts (zs_gS zm_319 zm_320 zm_269 zm_318) rfl rfl rfl (by decide +kernel) ⟨Nat.le_trans (by decide) hR1, Nat.le_trans (by decide) hR2⟩) rfl hl.1 (Nat.le_of_ble_eq_true rfl) d_Parser_readOperand_115 ⟨Nat.zero_le _, Nat.zero_le _⟩) (fun H locs hw => ?_)
          refine lv_if_eq hx hb d_Parser_readOperand_118 (tgt := 133) rfl (fun hc => ?_) (fun hc => ?_)
          · have hf := (if_pos hc).symm.trans hf
            exact K133 σ26 H locs ls hf hw (lv_sub hl [1] rfl)
          · have hf := (if_neg hc).symm.trans hf
            refine lv_aload_n hx hb d_Parser_readOperand_121 rfl (lv_at hl 1 rfl) ?_
            refine lv_dup hx hb d_Parser_readOperand_122 rfl ?_
            refine zr_get (ci := 2) G hw 7 10 zi_2 rfl rfl rfl (by decide) zm_330 (fun _ h => h) (v := .int (zs_i σ26 7 10)) rfl d_Parser_readOperand_123 ?_
            refine lv_iconst (v := 1) hx hb d_Parser_readOperand_126 (by decide) ?_
            refine lv_iload_n hx hb d_Parser_readOperand_127 rfl (lv_at hl 3 rfl) ?_
            refine lv_ishl hx hb d_Parser_readOperand_128 ?_
            refine lv_ior hx hb d_Parser_readOperand_129 ?_
            obtain ⟨σ29, e_σ29, hf⟩ := zq_ss hf
            refine zr_puti (ci := 2) G hw 7 10 zi_2 t_zd2 t_zd2_ok n_zd2 rfl rfl rfl (by decide) rfl zm_330 (fun _ h => h) rfl (x := ((zs_i σ26 7 10) ||| (1 <<< (x2 &&& 31)))) (t_zd2_ok 10 (by decide)) rfl rfl d_Parser_readOperand_130 (fun H locs hw => ?_)
            rw [← e_σ29] at hw
            exact K133 σ29 H locs ls hf hw (lv_sub hl [1] rfl)
      · have hf := (if_pos hc).symm.trans hf
        exact K80 σ H locs ls hf hw (lv_sub hl [1] rfl)
  have K60 : ∀ (x1 : Int32) (x2 : Int32) (σ : zs_S) (H : Heap) (locs : List Loc) (ls : Array Slot), zf_Parser_readOperand_60 F x1 x2 σ = some q → zs_I 0 D cA ad A s σ H locs → lv_has ls 4 [(0, .ref (ad 7)), (1, .int x1), (2, .int x2)] → W p l e RR s m args below meth c H locs 0 0 QQ (F0 m 60 ls []) := by
    intro  x1 x2 σ H locs ls hf hw hl
    unfold zf_Parser_readOperand_60 at hf
    refine lv_iconst (v := 1) hx hb d_Parser_readOperand_60 (by decide) ?_
    refine lv_goto hx hb d_Parser_readOperand_61 (tgt := 65) rfl ?_
    exact K65 x1 x2 1 σ H locs ls hf hw (lv_sub hl [0, 1, 2] rfl)
  have K41 : ∀ (x1 : Int32) (t0 : Int32) (σ : zs_S) (H : Heap) (locs : List Loc) (ls : Array Slot), zf_Parser_readOperand_41 F x1 t0 σ = some q → zs_I 0 D cA ad A s σ H locs → lv_has ls 4 [(0, .ref (ad 7)), (1, .int x1)] → W p l e RR s m args below meth c H locs 0 0 QQ (F0 m 41 ls [.int t0]) := by
    intro  x1 t0 σ H locs ls hf hw hl
    unfold zf_Parser_readOperand_41 at hf
    refine lv_istore_n hx hb d_Parser_readOperand_41 rfl hl (by decide) rfl (fun ls hl => ?_)
    have hl : lv_has ls 4 [(2, .int t0), (0, .ref (ad 7)), (1, .int x1)] := hl
    refine lv_iload_n hx hb d_Parser_readOperand_42 rfl (lv_at hl 2 rfl) ?_
    refine lv_if_eq hx hb d_Parser_readOperand_43 (tgt := 60) rfl (fun hc => ?_) (fun hc => ?_)
    · have hf := (if_pos hc).symm.trans hf
      exact K60 x1 t0 σ H locs ls hf hw (lv_sub hl [1, 2, 0] rfl)
    · have hf := (if_neg hc).symm.trans hf
      refine lv_iload_n hx hb d_Parser_readOperand_46 rfl (lv_at hl 0 rfl) ?_
      obtain ⟨r12, σ11, hc13, hf⟩ := zq_cs hf
      refine zr_ci hw (zr_runS (rest := []) G hw [.int t0] (zc_Parser_isVariable hJ hc13) (va_cwS 1 hts (zs_gS zm_319 zm_320 zm_269 zm_318) rfl rfl rfl (by decide +kernel) ⟨Nat.le_trans (by decide) hR1, Nat.le_trans (by decide) hR2⟩) rfl hl.1 (Nat.le_of_ble_eq_true rfl) d_Parser_readOperand_47 ⟨Nat.zero_le _, Nat.zero_le _⟩) (fun H locs hw => ?_)
      refine lv_if_ne hx hb d_Parser_readOperand_50 (tgt := 60) rfl (fun hc => ?_) (fun hc => ?_)
      · have hf := (if_neg hc).symm.trans hf
        exact K60 x1 t0 σ11 H locs ls hf hw (lv_sub hl [1, 2, 0] rfl)
      · have hf := (if_pos hc).symm.trans hf
        refine lv_iload_n hx hb d_Parser_readOperand_53 rfl (lv_at hl 0 rfl) ?_
        obtain ⟨r15, σ14, hc16, hf⟩ := zq_cs hf
        refine zr_ci hw (zr_runS (rest := []) G hw [.int t0] (zc_Parser_isLocal hJ hc16) (va_cwS 1 hts (zs_gS zm_322 zm_323 zm_269 zm_321) rfl rfl rfl (by decide +kernel) ⟨Nat.le_trans (by decide) hR1, Nat.le_trans (by decide) hR2⟩) rfl hl.1 (Nat.le_of_ble_eq_true rfl) d_Parser_readOperand_54 ⟨Nat.zero_le _, Nat.zero_le _⟩) (fun H locs hw => ?_)
        refine lv_if_eq hx hb d_Parser_readOperand_57 (tgt := 64) rfl (fun hc => ?_) (fun hc => ?_)
        · have hf := (if_pos hc).symm.trans hf
          refine lv_iconst (v := 0) hx hb d_Parser_readOperand_64 (by decide) ?_
          exact K65 x1 t0 0 σ14 H locs ls hf hw (lv_sub hl [1, 2, 0] rfl)
        · have hf := (if_neg hc).symm.trans hf
          exact K60 x1 t0 σ14 H locs ls hf hw (lv_sub hl [1, 2, 0] rfl)
  have K15 : ∀ (t0 : Int32) (σ : zs_S) (H : Heap) (locs : List Loc) (ls : Array Slot), zf_Parser_readOperand_15 F t0 σ = some q → zs_I 0 D cA ad A s σ H locs → lv_has ls 4 [(0, .ref (ad 7))] → W p l e RR s m args below meth c H locs 0 0 QQ (F0 m 15 ls [.int t0]) := by
    intro  t0 σ H locs ls hf hw hl
    unfold zf_Parser_readOperand_15 at hf
    refine lv_istore_n hx hb d_Parser_readOperand_15 rfl hl (by decide) rfl (fun ls hl => ?_)
    have hl : lv_has ls 4 [(1, .int t0), (0, .ref (ad 7))] := hl
    refine lv_iload_n hx hb d_Parser_readOperand_16 rfl (lv_at hl 0 rfl) ?_
    refine lv_if_eq hx hb d_Parser_readOperand_17 (tgt := 28) rfl (fun hc => ?_) (fun hc => ?_)
    · have hf := (if_pos hc).symm.trans hf
      refine lv_aload_n hx hb d_Parser_readOperand_28 rfl (lv_at hl 1 rfl) ?_
      obtain ⟨q3, e_q3, h_q3, hf⟩ := zq_qs hf
      refine zr_get (ci := 2) G hw 7 4 zi_2 rfl rfl rfl (by decide) zm_259 (fun _ h => h) (v := .ref (ad q3)) (zs_fr rfl e_q3 h_q3) d_Parser_readOperand_29 ?_
      obtain ⟨hs4, hf⟩ := zq_gs hf
      have hs4 := zq_ks hs4
      obtain ⟨q5, e_q5, h_q5, hf⟩ := zq_qs hf
      refine zr_get (ci := 1) G hw q3 2 zi_1 hs4 rfl rfl (by decide) zm_277 (fun _ h => h) (v := .ref (ad q5)) (zs_fs rfl e_q5 h_q5) d_Parser_readOperand_32 ?_
      refine lv_aload_n hx hb d_Parser_readOperand_35 rfl (lv_at hl 1 rfl) ?_
      refine zr_get (ci := 2) G hw 7 5 zi_2 rfl rfl rfl (by decide) zm_261 (fun _ h => h) (v := .int (zs_i σ 7 5)) rfl d_Parser_readOperand_36 ?_
      obtain ⟨hs6, hf⟩ := zq_gs hf
      have hs6 := zq_ks hs6
      obtain ⟨hi7, hf⟩ := zq_gs hf
      refine zr_lald G hw q5 hs6 rfl hi7 d_Parser_readOperand_39 ?_
      refine lv_l2i hx hb d_Parser_readOperand_40 rfl ?_
      exact K41 t0 (((zs_l σ q5 (zs_i σ 7 5).toNatClampNeg : Int64)).toInt32) σ H locs ls hf hw (lv_sub hl [1, 0] rfl)
    · have hf := (if_neg hc).symm.trans hf
      refine lv_aload_n hx hb d_Parser_readOperand_20 rfl (lv_at hl 1 rfl) ?_
      refine lv_iconst (v := 0) hx hb d_Parser_readOperand_21 (by decide) ?_
      obtain ⟨r9, σ8, hc10, hf⟩ := zq_cs hf
      refine zr_ci hw (zr_runV (rest := []) (ci := 2) (o := 7) G hw [.int 0] (zc_Parser_find hJ hc10) (cwV 1 hts (zs_gV zm_280 zm_281 zm_282 zm_269 zm_279) rfl rfl rfl (by decide +kernel) ⟨Nat.le_trans (by decide) hR1, Nat.le_trans (by decide) hR2⟩) rfl rfl rfl hl.1 (Nat.le_of_ble_eq_true rfl) d_Parser_readOperand_22 ⟨Nat.zero_le _, Nat.zero_le _⟩) (fun H locs hw => ?_)
      refine lv_goto hx hb d_Parser_readOperand_25 (tgt := 41) rfl ?_
      exact K41 t0 r9 σ8 H locs ls hf hw (lv_sub hl [1, 0] rfl)
  unfold zf_Parser_readOperand at hf
  refine lv_aload_n hx hb d_Parser_readOperand_0 rfl (lv_at hl 0 rfl) ?_
  obtain ⟨q1, e_q1, h_q1, hf⟩ := zq_qs hf
  refine zr_get (ci := 2) G hw 7 6 zi_2 rfl rfl rfl (by decide) zm_263 (fun _ h => h) (v := .ref (ad q1)) (zs_fr rfl e_q1 h_q1) d_Parser_readOperand_1 ?_
  refine va_gets (C := "ScheduleCheck$Token") (n := "NAME") (d := "LScheduleCheck$Token;") (v := .ref (ad 1002)) hx hb ((G.2.2.2.1 rfl).1.1 2 (by decide)).1 hw.2.2 hown (hts _ zm_275) (fun _ h => h) d_Parser_readOperand_4 ?_
  obtain ⟨hm2, hf⟩ := zq_gs hf
  refine zr_ane G (of_decide_eq_true hm2) (by decide) d_Parser_readOperand_7 (tgt := 14) rfl (fun hc => ?_) (fun hc => ?_)
  · have hf := (if_neg hc).symm.trans hf
    refine lv_iconst (v := 0) hx hb d_Parser_readOperand_14 (by decide) ?_
    exact K15 0 σ H locs ls hf hw (lv_sub hl [0] rfl)
  · have hf := (if_pos hc).symm.trans hf
    refine lv_iconst (v := 1) hx hb d_Parser_readOperand_10 (by decide) ?_
    refine lv_goto hx hb d_Parser_readOperand_11 (tgt := 15) rfl ?_
    exact K15 1 σ H locs ls hf hw (lv_sub hl [0] rfl)
/-! ScheduleCheck$Parser.readStop -/
def y_Parser_readStop : MethodName := ⟨"ScheduleCheck$Parser","readStop","(LScheduleCheck$Statement;)V"⟩
theorem d_Parser_readStop_0 : decode prog_6_method_22_code 0 = .ok (.aload_n 1, 1) := by decide +kernel
theorem d_Parser_readStop_1 : decode prog_6_method_22_code 1 = .ok (.getstatic 271, 3) := by decide +kernel
theorem d_Parser_readStop_4 : decode prog_6_method_22_code 4 = .ok (.putfield 247, 3) := by decide +kernel
theorem d_Parser_readStop_7 : decode prog_6_method_22_code 7 = .ok (.aload_n 0, 1) := by decide +kernel
theorem d_Parser_readStop_8 : decode prog_6_method_22_code 8 = .ok (.invokevirtual 78, 3) := by decide +kernel
theorem d_Parser_readStop_11 : decode prog_6_method_22_code 11 = .ok (.aload_n 0, 1) := by decide +kernel
theorem d_Parser_readStop_12 : decode prog_6_method_22_code 12 = .ok (.getstatic 113, 3) := by decide +kernel
theorem d_Parser_readStop_15 : decode prog_6_method_22_code 15 = .ok (.invokevirtual 116, 3) := by decide +kernel
theorem d_Parser_readStop_18 : decode prog_6_method_22_code 18 = .ok (.return_, 1) := by decide +kernel
def zf_Parser_readStop (F : Nat) (x1 : Nat) (σ : zs_S) : Option (zs_S) :=
  zq_g (zq_k 0 x1 16) <|
  zq_v (zs_wr σ x1 0 1109) fun σ2 =>
  zq_d (zf_Parser_advance F σ2) fun σ3 =>
  zq_d (zf_Parser_expect F 1023 σ3) fun σ6 =>
  some σ6
set_option maxHeartbeats 4000000 in
set_option maxRecDepth 100000 in
theorem zc_Parser_readStop {l : Launch} {D : va_G} {cA : Nat → ClassId} {ad : Nat → Nat} {A : Nat → Prop} {F : Nat} {x1 : Nat} {σ : zs_S} {q : zs_S} (hJ : zs_J ad) (hf : zf_Parser_readStop F x1 σ = some q) : Met l y_Parser_readStop (.code y_Parser_readStop prog_6_method_22_code 2 none :: zd_ww) { frames := 2, cells := 0, slots := 0, locals := 41 } (va_Pc [.ref (ad 7), .ref (ad x1)] (zs_U 0 D cA ad A σ)) (zs_Qv 0 D cA ad A q) 0 0 A := by
  refine Met.ofW (cc := prog_6_method_22_code) (maxL := 2) (ret := none) (by decide) rfl ?_
  intro p e s m args below meth c s₁ B hml hv
  obtain ⟨hargs, hP, hK, hD, hZ⟩ := hv
  have G : zs_G 0 p s m args c prog_6_method_22_code 2 "ScheduleCheck$Parser" D cA ad A := ⟨⟨B.exec, B.bytes, hml, findClass_of_methodNamed B.named, fun w h => atoms_spec B.pre w (List.mem_cons_of_mem _ h)⟩, hK, hJ, hZ⟩
  have hw : zs_I 0 D cA ad A s σ s.heap [] := ⟨hP, hD, va_S.rf⟩
  have hx := G.1.1
  have hb := G.1.2.1
  have hown := G.1.2.2.2.1
  have hts := G.1.2.2.2.2
  have hr := B.returns
  have hlocks := B.notSynchronized
  have he : entryFrame m args 2 = F0 m 0 ((lg_sl [.ref (ad 7), .ref (ad x1)] ++ List.replicate (2 - (lg_sl [.ref (ad 7), .ref (ad x1)]).length) Slot.unset).toArray) [] := by rw [hargs]; exact lg_entry_eq m _ 2
  have hl := lv_entry [.ref (ad 7), .ref (ad x1)] (n := 2) (Nat.le_of_ble_eq_true rfl)
  rw [he]
  generalize (lg_sl [.ref (ad 7), .ref (ad x1)] ++ List.replicate (2 - (lg_sl [.ref (ad 7), .ref (ad x1)]).length) Slot.unset).toArray = ls at hl
  have hl : lv_has ls 2 [(0, .ref (ad 7)), (1, .ref (ad x1))] := hl
  obtain ⟨RR, hR⟩ : ∃ z, z = (headSpec (.code y_Parser_readStop prog_6_method_22_code 2 none :: zd_ww) { frames := 2, cells := 0, slots := 0, locals := 41 }).room := ⟨_, rfl⟩
  rw [← hR]
  obtain ⟨QQ, hQ⟩ : ∃ z, z = MQ below (zs_Qv 0 D cA ad A q) args s 0 0 A := ⟨_, rfl⟩
  rw [← hQ]
  have hR1 : 2 ≤ RR.frames := by rw [hR]; exact Nat.le_refl _
  have hR2 : 41 ≤ RR.locals := by rw [hR]; exact Nat.le_refl _
  generalize s.heap = H at hw ⊢
  generalize ([] : List Loc) = locs at hw ⊢
  unfold zf_Parser_readStop at hf
  refine lv_aload_n hx hb d_Parser_readStop_0 rfl (lv_at hl 1 rfl) ?_
  refine va_gets (C := "ScheduleCheck$Kind") (n := "STOP") (d := "LScheduleCheck$Kind;") (v := .ref (ad 1109)) hx hb ((G.2.2.2.1 rfl).2.2.1.1 9 (by decide)).1 hw.2.2 hown (hts _ zm_331) (fun _ h => h) d_Parser_readStop_1 ?_
  obtain ⟨hs1, hf⟩ := zq_gs hf
  have hs1 := zq_ks hs1
  obtain ⟨σ2, e_σ2, hf⟩ := zq_ss hf
  refine zr_putr (ci := 6) G hw x1 0 zi_6 t_zd6 t_zd6_ok n_zd6 hs1 rfl rfl (by decide) rfl zm_332 (fun _ h => h) rfl (x := 1109) (by decide) (t_zd6_ok 0 (by decide)) rfl rfl d_Parser_readStop_4 (fun H locs hw => ?_)
  rw [← e_σ2] at hw
  refine lv_aload_n hx hb d_Parser_readStop_7 rfl (lv_at hl 0 rfl) ?_
  obtain ⟨σ3, hc5, hf⟩ := zq_ds hf
  refine zr_cv hw (zr_runV (rest := []) (ci := 2) (o := 7) G hw [] (zc_Parser_advance hJ hc5) (cwV 0 hts (zs_gV zm_271 zm_272 zm_273 zm_269 zm_270) rfl rfl rfl (by decide +kernel) ⟨Nat.le_trans (by decide) hR1, Nat.le_trans (by decide) hR2⟩) rfl rfl rfl hl.1 (Nat.le_of_ble_eq_true rfl) d_Parser_readStop_8 ⟨Nat.zero_le _, Nat.zero_le _⟩) (fun H locs hw => ?_)
  refine lv_aload_n hx hb d_Parser_readStop_11 rfl (lv_at hl 0 rfl) ?_
  refine va_gets (C := "ScheduleCheck$Token") (n := "SEMICOLON") (d := "LScheduleCheck$Token;") (v := .ref (ad 1023)) hx hb ((G.2.2.2.1 rfl).1.1 23 (by decide)).1 hw.2.2 hown (hts _ zm_301) (fun _ h => h) d_Parser_readStop_12 ?_
  obtain ⟨σ6, hc8, hf⟩ := zq_ds hf
  refine zr_cv hw (zr_runV (rest := []) (ci := 2) (o := 7) G hw [.ref (ad 1023)] (zc_Parser_expect hJ hc8) (cwV 1 hts (zs_gV zm_287 zm_288 zm_289 zm_269 zm_286) rfl rfl rfl (by decide +kernel) ⟨Nat.le_trans (by decide) hR1, Nat.le_trans (by decide) hR2⟩) rfl rfl rfl hl.1 (Nat.le_of_ble_eq_true rfl) d_Parser_readStop_15 ⟨Nat.zero_le _, Nat.zero_le _⟩) (fun H locs hw => ?_)
  exact zr_vret G hw hr hlocks hf hQ d_Parser_readStop_18
/-! ScheduleCheck$Parser.readLockUse -/
def y_Parser_readLockUse : MethodName := ⟨"ScheduleCheck$Parser","readLockUse","(LScheduleCheck$Statement;LScheduleCheck$Kind;)V"⟩
theorem d_Parser_readLockUse_0 : decode prog_6_method_20_code 0 = .ok (.aload_n 1, 1) := by decide +kernel
theorem d_Parser_readLockUse_1 : decode prog_6_method_20_code 1 = .ok (.aload_n 2, 1) := by decide +kernel
theorem d_Parser_readLockUse_2 : decode prog_6_method_20_code 2 = .ok (.putfield 247, 3) := by decide +kernel
theorem d_Parser_readLockUse_5 : decode prog_6_method_20_code 5 = .ok (.aload_n 0, 1) := by decide +kernel
theorem d_Parser_readLockUse_6 : decode prog_6_method_20_code 6 = .ok (.invokevirtual 78, 3) := by decide +kernel
theorem d_Parser_readLockUse_9 : decode prog_6_method_20_code 9 = .ok (.aload_n 2, 1) := by decide +kernel
theorem d_Parser_readLockUse_10 : decode prog_6_method_20_code 10 = .ok (.getstatic 215, 3) := by decide +kernel
theorem d_Parser_readLockUse_13 : decode prog_6_method_20_code 13 = .ok (.if_acmp .ne 24, 3) := by decide +kernel
theorem d_Parser_readLockUse_16 : decode prog_6_method_20_code 16 = .ok (.aload_n 0, 1) := by decide +kernel
theorem d_Parser_readLockUse_17 : decode prog_6_method_20_code 17 = .ok (.getfield 33, 3) := by decide +kernel
theorem d_Parser_readLockUse_20 : decode prog_6_method_20_code 20 = .ok (.getstatic 259, 3) := by decide +kernel
theorem d_Parser_readLockUse_23 : decode prog_6_method_20_code 23 = .ok (.if_acmp .ne 14, 3) := by decide +kernel
theorem d_Parser_readLockUse_26 : decode prog_6_method_20_code 26 = .ok (.aload_n 1, 1) := by decide +kernel
theorem d_Parser_readLockUse_27 : decode prog_6_method_20_code 27 = .ok (.getstatic 262, 3) := by decide +kernel
theorem d_Parser_readLockUse_30 : decode prog_6_method_20_code 30 = .ok (.putfield 247, 3) := by decide +kernel
theorem d_Parser_readLockUse_33 : decode prog_6_method_20_code 33 = .ok (.aload_n 0, 1) := by decide +kernel
theorem d_Parser_readLockUse_34 : decode prog_6_method_20_code 34 = .ok (.invokevirtual 78, 3) := by decide +kernel
theorem d_Parser_readLockUse_37 : decode prog_6_method_20_code 37 = .ok (.aload_n 1, 1) := by decide +kernel
theorem d_Parser_readLockUse_38 : decode prog_6_method_20_code 38 = .ok (.aload_n 0, 1) := by decide +kernel
theorem d_Parser_readLockUse_39 : decode prog_6_method_20_code 39 = .ok (.iconst 0, 1) := by decide +kernel
theorem d_Parser_readLockUse_40 : decode prog_6_method_20_code 40 = .ok (.invokevirtual 138, 3) := by decide +kernel
theorem d_Parser_readLockUse_43 : decode prog_6_method_20_code 43 = .ok (.putfield 250, 3) := by decide +kernel
theorem d_Parser_readLockUse_46 : decode prog_6_method_20_code 46 = .ok (.aload_n 1, 1) := by decide +kernel
theorem d_Parser_readLockUse_47 : decode prog_6_method_20_code 47 = .ok (.getfield 250, 3) := by decide +kernel
theorem d_Parser_readLockUse_50 : decode prog_6_method_20_code 50 = .ok (.invokestatic 265, 3) := by decide +kernel
theorem d_Parser_readLockUse_53 : decode prog_6_method_20_code 53 = .ok (.ifCond .ne 8, 3) := by decide +kernel
theorem d_Parser_readLockUse_56 : decode prog_6_method_20_code 56 = .ok (.aload_n 0, 1) := by decide +kernel
theorem d_Parser_readLockUse_57 : decode prog_6_method_20_code 57 = .ok (.invokevirtual 66, 3) := by decide +kernel
theorem d_Parser_readLockUse_60 : decode prog_6_method_20_code 60 = .ok (.return_, 1) := by decide +kernel
theorem d_Parser_readLockUse_61 : decode prog_6_method_20_code 61 = .ok (.aload_n 0, 1) := by decide +kernel
theorem d_Parser_readLockUse_62 : decode prog_6_method_20_code 62 = .ok (.invokevirtual 78, 3) := by decide +kernel
theorem d_Parser_readLockUse_65 : decode prog_6_method_20_code 65 = .ok (.aload_n 0, 1) := by decide +kernel
theorem d_Parser_readLockUse_66 : decode prog_6_method_20_code 66 = .ok (.getstatic 113, 3) := by decide +kernel
theorem d_Parser_readLockUse_69 : decode prog_6_method_20_code 69 = .ok (.invokevirtual 116, 3) := by decide +kernel
theorem d_Parser_readLockUse_72 : decode prog_6_method_20_code 72 = .ok (.return_, 1) := by decide +kernel
def zf_Parser_readLockUse_37 (F : Nat)  (x1 : Nat) (σ : zs_S) : Option (zs_S) :=
  zq_c (zf_Parser_find F 0 σ) fun r15 σ14 =>
  zq_g (zq_k 0 x1 16) <|
  zq_v (zs_wi σ14 x1 2 r15) fun σ18 =>
  zq_c (zf_Parser_isLock F (zs_i σ18 x1 2) σ18) fun r20 σ19 =>
  if r20 = 0 then (
    zq_d (zf_Parser_fail F σ19) fun σ28 =>
    some σ28
  ) else (
    zq_d (zf_Parser_advance F σ19) fun σ22 =>
    zq_d (zf_Parser_expect F 1023 σ22) fun σ25 =>
    some σ25
  )
def zf_Parser_readLockUse (F : Nat) (x1 : Nat) (x2 : Nat) (σ : zs_S) : Option (zs_S) :=
  zq_g (zq_k 0 x1 16) <|
  zq_g (zq_n x2) <|
  zq_v (zs_wr σ x1 0 x2) fun σ2 =>
  zq_d (zf_Parser_advance F σ2) fun σ4 =>
  zq_g (decide (x2 < 1200)) <|
  if x2 = 1104 then (
    zq_q (zs_r σ4 7 6) fun q8 =>
    zq_g (decide (q8 < 1200)) <|
    if q8 = 1013 then (
      zq_v (zs_wr σ4 x1 0 1105) fun σ10 =>
      zq_d (zf_Parser_advance F σ10) fun σ11 =>
      zf_Parser_readLockUse_37 F x1 σ11
    ) else (
      zf_Parser_readLockUse_37 F x1 σ4
    )
  ) else (
    zf_Parser_readLockUse_37 F x1 σ4
  )
set_option maxHeartbeats 4000000 in
set_option maxRecDepth 100000 in
theorem zc_Parser_readLockUse {l : Launch} {D : va_G} {cA : Nat → ClassId} {ad : Nat → Nat} {A : Nat → Prop} {F : Nat} {x1 : Nat} {x2 : Nat} {σ : zs_S} {q : zs_S} (hJ : zs_J ad) (hf : zf_Parser_readLockUse F x1 x2 σ = some q) : Met l y_Parser_readLockUse (.code y_Parser_readLockUse prog_6_method_20_code 3 none :: zd_ww) { frames := 2, cells := 0, slots := 0, locals := 41 } (va_Pc [.ref (ad 7), .ref (ad x1), .ref (ad x2)] (zs_U 0 D cA ad A σ)) (zs_Qv 0 D cA ad A q) 0 0 A := by
  refine Met.ofW (cc := prog_6_method_20_code) (maxL := 3) (ret := none) (by decide) rfl ?_
  intro p e s m args below meth c s₁ B hml hv
  obtain ⟨hargs, hP, hK, hD, hZ⟩ := hv
  have G : zs_G 0 p s m args c prog_6_method_20_code 3 "ScheduleCheck$Parser" D cA ad A := ⟨⟨B.exec, B.bytes, hml, findClass_of_methodNamed B.named, fun w h => atoms_spec B.pre w (List.mem_cons_of_mem _ h)⟩, hK, hJ, hZ⟩
  have hw : zs_I 0 D cA ad A s σ s.heap [] := ⟨hP, hD, va_S.rf⟩
  have hx := G.1.1
  have hb := G.1.2.1
  have hown := G.1.2.2.2.1
  have hts := G.1.2.2.2.2
  have hr := B.returns
  have hlocks := B.notSynchronized
  have he : entryFrame m args 3 = F0 m 0 ((lg_sl [.ref (ad 7), .ref (ad x1), .ref (ad x2)] ++ List.replicate (3 - (lg_sl [.ref (ad 7), .ref (ad x1), .ref (ad x2)]).length) Slot.unset).toArray) [] := by rw [hargs]; exact lg_entry_eq m _ 3
  have hl := lv_entry [.ref (ad 7), .ref (ad x1), .ref (ad x2)] (n := 3) (Nat.le_of_ble_eq_true rfl)
  rw [he]
  generalize (lg_sl [.ref (ad 7), .ref (ad x1), .ref (ad x2)] ++ List.replicate (3 - (lg_sl [.ref (ad 7), .ref (ad x1), .ref (ad x2)]).length) Slot.unset).toArray = ls at hl
  have hl : lv_has ls 3 [(0, .ref (ad 7)), (1, .ref (ad x1)), (2, .ref (ad x2))] := hl
  obtain ⟨RR, hR⟩ : ∃ z, z = (headSpec (.code y_Parser_readLockUse prog_6_method_20_code 3 none :: zd_ww) { frames := 2, cells := 0, slots := 0, locals := 41 }).room := ⟨_, rfl⟩
  rw [← hR]
  obtain ⟨QQ, hQ⟩ : ∃ z, z = MQ below (zs_Qv 0 D cA ad A q) args s 0 0 A := ⟨_, rfl⟩
  rw [← hQ]
  have hR1 : 2 ≤ RR.frames := by rw [hR]; exact Nat.le_refl _
  have hR2 : 41 ≤ RR.locals := by rw [hR]; exact Nat.le_refl _
  generalize s.heap = H at hw ⊢
  generalize ([] : List Loc) = locs at hw ⊢
  have K37 : ∀ (x1 : Nat) (σ : zs_S) (H : Heap) (locs : List Loc) (ls : Array Slot), zf_Parser_readLockUse_37 F x1 σ = some q → zs_I 0 D cA ad A s σ H locs → lv_has ls 3 [(0, .ref (ad 7)), (1, .ref (ad x1))] → W p l e RR s m args below meth c H locs 0 0 QQ (F0 m 37 ls []) := by
    intro  x1 σ H locs ls hf hw hl
    unfold zf_Parser_readLockUse_37 at hf
    refine lv_aload_n hx hb d_Parser_readLockUse_37 rfl (lv_at hl 1 rfl) ?_
    refine lv_aload_n hx hb d_Parser_readLockUse_38 rfl (lv_at hl 0 rfl) ?_
    refine lv_iconst (v := 0) hx hb d_Parser_readLockUse_39 (by decide) ?_
    obtain ⟨r15, σ14, hc16, hf⟩ := zq_cs hf
    refine zr_ci hw (zr_runV (rest := [.ref (ad x1)]) (ci := 2) (o := 7) G hw [.int 0] (zc_Parser_find hJ hc16) (cwV 1 hts (zs_gV zm_280 zm_281 zm_282 zm_269 zm_279) rfl rfl rfl (by decide +kernel) ⟨Nat.le_trans (by decide) hR1, Nat.le_trans (by decide) hR2⟩) rfl rfl rfl hl.1 (Nat.le_of_ble_eq_true rfl) d_Parser_readLockUse_40 ⟨Nat.zero_le _, Nat.zero_le _⟩) (fun H locs hw => ?_)
    obtain ⟨hs17, hf⟩ := zq_gs hf
    have hs17 := zq_ks hs17
    obtain ⟨σ18, e_σ18, hf⟩ := zq_ss hf
    refine zr_puti (ci := 6) G hw x1 2 zi_6 t_zd6 t_zd6_ok n_zd6 hs17 rfl rfl (by decide) rfl zm_336 (fun _ h => h) rfl (x := r15) (t_zd6_ok 2 (by decide)) rfl rfl d_Parser_readLockUse_43 (fun H locs hw => ?_)
    rw [← e_σ18] at hw
    refine lv_aload_n hx hb d_Parser_readLockUse_46 rfl (lv_at hl 1 rfl) ?_
    refine zr_get (ci := 6) G hw x1 2 zi_6 hs17 rfl rfl (by decide) zm_336 (fun _ h => h) (v := .int (zs_i σ18 x1 2)) rfl d_Parser_readLockUse_47 ?_
    obtain ⟨r20, σ19, hc21, hf⟩ := zq_cs hf
    refine zr_ci hw (zr_runS (rest := []) G hw [.int (zs_i σ18 x1 2)] (zc_Parser_isLock hJ hc21) (va_cwS 1 hts (zs_gS zm_338 zm_339 zm_269 zm_337) rfl rfl rfl (by decide +kernel) ⟨Nat.le_trans (by decide) hR1, Nat.le_trans (by decide) hR2⟩) rfl hl.1 (Nat.le_of_ble_eq_true rfl) d_Parser_readLockUse_50 ⟨Nat.zero_le _, Nat.zero_le _⟩) (fun H locs hw => ?_)
    refine lv_if_ne hx hb d_Parser_readLockUse_53 (tgt := 61) rfl (fun hc => ?_) (fun hc => ?_)
    · have hf := (if_neg hc).symm.trans hf
      refine lv_aload_n hx hb d_Parser_readLockUse_61 rfl (lv_at hl 0 rfl) ?_
      obtain ⟨σ22, hc24, hf⟩ := zq_ds hf
      refine zr_cv hw (zr_runV (rest := []) (ci := 2) (o := 7) G hw [] (zc_Parser_advance hJ hc24) (cwV 0 hts (zs_gV zm_271 zm_272 zm_273 zm_269 zm_270) rfl rfl rfl (by decide +kernel) ⟨Nat.le_trans (by decide) hR1, Nat.le_trans (by decide) hR2⟩) rfl rfl rfl hl.1 (Nat.le_of_ble_eq_true rfl) d_Parser_readLockUse_62 ⟨Nat.zero_le _, Nat.zero_le _⟩) (fun H locs hw => ?_)
      refine lv_aload_n hx hb d_Parser_readLockUse_65 rfl (lv_at hl 0 rfl) ?_
      refine va_gets (C := "ScheduleCheck$Token") (n := "SEMICOLON") (d := "LScheduleCheck$Token;") (v := .ref (ad 1023)) hx hb ((G.2.2.2.1 rfl).1.1 23 (by decide)).1 hw.2.2 hown (hts _ zm_301) (fun _ h => h) d_Parser_readLockUse_66 ?_
      obtain ⟨σ25, hc27, hf⟩ := zq_ds hf
      refine zr_cv hw (zr_runV (rest := []) (ci := 2) (o := 7) G hw [.ref (ad 1023)] (zc_Parser_expect hJ hc27) (cwV 1 hts (zs_gV zm_287 zm_288 zm_289 zm_269 zm_286) rfl rfl rfl (by decide +kernel) ⟨Nat.le_trans (by decide) hR1, Nat.le_trans (by decide) hR2⟩) rfl rfl rfl hl.1 (Nat.le_of_ble_eq_true rfl) d_Parser_readLockUse_69 ⟨Nat.zero_le _, Nat.zero_le _⟩) (fun H locs hw => ?_)
      exact zr_vret G hw hr hlocks hf hQ d_Parser_readLockUse_72
    · have hf := (if_pos hc).symm.trans hf
      refine lv_aload_n hx hb d_Parser_readLockUse_56 rfl (lv_at hl 0 rfl) ?_
      obtain ⟨σ28, hc30, hf⟩ := zq_ds hf
      refine zr_cv hw (zr_runV (rest := []) (ci := 2) (o := 7) G hw [] (zc_Parser_fail hJ hc30) (cwV 0 hts (zs_gV zm_266 zm_267 zm_268 zm_269 zm_265) rfl rfl rfl (by decide +kernel) ⟨Nat.le_trans (by decide) hR1, Nat.le_trans (by decide) hR2⟩) rfl rfl rfl hl.1 (Nat.le_of_ble_eq_true rfl) d_Parser_readLockUse_57 ⟨Nat.zero_le _, Nat.zero_le _⟩) (fun H locs hw => ?_)
      exact zr_vret G hw hr hlocks hf hQ d_Parser_readLockUse_60
  unfold zf_Parser_readLockUse at hf
  refine lv_aload_n hx hb d_Parser_readLockUse_0 rfl (lv_at hl 1 rfl) ?_
  refine lv_aload_n hx hb d_Parser_readLockUse_1 rfl (lv_at hl 2 rfl) ?_
  obtain ⟨hs1, hf⟩ := zq_gs hf
  have hs1 := zq_ks hs1
  obtain ⟨hn3, hf⟩ := zq_gs hf
  have hn3 := zq_ns hn3
  obtain ⟨σ2, e_σ2, hf⟩ := zq_ss hf
  refine zr_putr (ci := 6) G hw x1 0 zi_6 t_zd6 t_zd6_ok n_zd6 hs1 rfl rfl (by decide) rfl zm_332 (fun _ h => h) rfl (x := x2) hn3 (t_zd6_ok 0 (by decide)) rfl rfl d_Parser_readLockUse_2 (fun H locs hw => ?_)
  rw [← e_σ2] at hw
  refine lv_aload_n hx hb d_Parser_readLockUse_5 rfl (lv_at hl 0 rfl) ?_
  obtain ⟨σ4, hc6, hf⟩ := zq_ds hf
  refine zr_cv hw (zr_runV (rest := []) (ci := 2) (o := 7) G hw [] (zc_Parser_advance hJ hc6) (cwV 0 hts (zs_gV zm_271 zm_272 zm_273 zm_269 zm_270) rfl rfl rfl (by decide +kernel) ⟨Nat.le_trans (by decide) hR1, Nat.le_trans (by decide) hR2⟩) rfl rfl rfl hl.1 (Nat.le_of_ble_eq_true rfl) d_Parser_readLockUse_6 ⟨Nat.zero_le _, Nat.zero_le _⟩) (fun H locs hw => ?_)
  refine lv_aload_n hx hb d_Parser_readLockUse_9 rfl (lv_at hl 2 rfl) ?_
  refine va_gets (C := "ScheduleCheck$Kind") (n := "WAKE") (d := "LScheduleCheck$Kind;") (v := .ref (ad 1104)) hx hb ((G.2.2.2.1 rfl).2.2.1.1 4 (by decide)).1 hw.2.2 hown (hts _ zm_333) (fun _ h => h) d_Parser_readLockUse_10 ?_
  obtain ⟨hm7, hf⟩ := zq_gs hf
  refine zr_ane G (of_decide_eq_true hm7) (by decide) d_Parser_readLockUse_13 (tgt := 37) rfl (fun hc => ?_) (fun hc => ?_)
  · have hf := (if_neg hc).symm.trans hf
    exact K37 x1 σ4 H locs ls hf hw (lv_sub hl [0, 1] rfl)
  · have hf := (if_pos hc).symm.trans hf
    refine lv_aload_n hx hb d_Parser_readLockUse_16 rfl (lv_at hl 0 rfl) ?_
    obtain ⟨q8, e_q8, h_q8, hf⟩ := zq_qs hf
    refine zr_get (ci := 2) G hw 7 6 zi_2 rfl rfl rfl (by decide) zm_263 (fun _ h => h) (v := .ref (ad q8)) (zs_fr rfl e_q8 h_q8) d_Parser_readLockUse_17 ?_
    refine va_gets (C := "ScheduleCheck$Token") (n := "ALL") (d := "LScheduleCheck$Token;") (v := .ref (ad 1013)) hx hb ((G.2.2.2.1 rfl).1.1 13 (by decide)).1 hw.2.2 hown (hts _ zm_334) (fun _ h => h) d_Parser_readLockUse_20 ?_
    obtain ⟨hm9, hf⟩ := zq_gs hf
    refine zr_ane G (of_decide_eq_true hm9) (by decide) d_Parser_readLockUse_23 (tgt := 37) rfl (fun hc => ?_) (fun hc => ?_)
    · have hf := (if_neg hc).symm.trans hf
      exact K37 x1 σ4 H locs ls hf hw (lv_sub hl [0, 1] rfl)
    · have hf := (if_pos hc).symm.trans hf
      refine lv_aload_n hx hb d_Parser_readLockUse_26 rfl (lv_at hl 1 rfl) ?_
      refine va_gets (C := "ScheduleCheck$Kind") (n := "WAKE_ALL") (d := "LScheduleCheck$Kind;") (v := .ref (ad 1105)) hx hb ((G.2.2.2.1 rfl).2.2.1.1 5 (by decide)).1 hw.2.2 hown (hts _ zm_335) (fun _ h => h) d_Parser_readLockUse_27 ?_
      obtain ⟨σ10, e_σ10, hf⟩ := zq_ss hf
      refine zr_putr (ci := 6) G hw x1 0 zi_6 t_zd6 t_zd6_ok n_zd6 hs1 rfl rfl (by decide) rfl zm_332 (fun _ h => h) rfl (x := 1105) (by decide) (t_zd6_ok 0 (by decide)) rfl rfl d_Parser_readLockUse_30 (fun H locs hw => ?_)
      rw [← e_σ10] at hw
      refine lv_aload_n hx hb d_Parser_readLockUse_33 rfl (lv_at hl 0 rfl) ?_
      obtain ⟨σ11, hc13, hf⟩ := zq_ds hf
      refine zr_cv hw (zr_runV (rest := []) (ci := 2) (o := 7) G hw [] (zc_Parser_advance hJ hc13) (cwV 0 hts (zs_gV zm_271 zm_272 zm_273 zm_269 zm_270) rfl rfl rfl (by decide +kernel) ⟨Nat.le_trans (by decide) hR1, Nat.le_trans (by decide) hR2⟩) rfl rfl rfl hl.1 (Nat.le_of_ble_eq_true rfl) d_Parser_readLockUse_34 ⟨Nat.zero_le _, Nat.zero_le _⟩) (fun H locs hw => ?_)
      exact K37 x1 σ11 H locs ls hf hw (lv_sub hl [0, 1] rfl)
