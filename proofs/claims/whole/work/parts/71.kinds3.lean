/-! assignments and locks -/
section YKC
variable {F n m p q t V L T : Nat} {v : Nat → Nat}
theorem ykd_asg2 {i s a c e fr d wv : Nat} {par : Int32} {σ τ : zs_S} {kS : Int32 → Int32 → zs_S → Option (Int32 × zs_S)} (h : yPr F v n m p q t V L T i s a c e fr par σ τ) (hc : yx_c v n i = 1002) (hV : V ≤ 8 ∧ T ≤ 3 ∧ t < 4) (hd : (d < V ∧ wv = d) ∨ (∃ y, y < T ∧ d = 20 + 3 * t + y ∧ wv = 8 + y)) : yr (zf_Parser_readAssignment_25 F (p + 5 + s) (nI d) σ) (zf_M_statement_411 kS F (nI s) (nI wv) (nI s) (q + 11) (zs_wi (yps τ fr (3 * s)) (q + 10) s 0)) (fun σ' r => yKD F v n m p q t V L T i s c e fr par σ τ r.1 σ' r.2) := by
  have h0 := h
  obtain ⟨hN, ⟨he, hfr, hs, hF⟩, hop, o1, o5, o6, o7, o8⟩ := h
  obtain ⟨k1, k2, k3, k4, hA, hp2, hq2⟩ := yN_tok hN
  have hp := hN.1.2.1
  have hq := hN.1.2.2
  have hi := yB_lt hN.1.1 k4 (by omega) (by omega)
  have hd1 : d < 100 := by
    rcases hd with ⟨h1, -⟩ | ⟨y, h1, h2, -⟩ <;> omega
  have hN1 : yN F v n m p q t V L T i (s + 1) a c e (zs_wi (zs_wr σ (p + 5 + s) 0 1100) (p + 5 + s) 2 (nI d)) (zs_wi (zs_wi (yps τ fr (3 * s)) (q + 10) s 0) (q + 11) s (nI wv)) := yN_o hN (fun o k x => yt_in _ _ (by omega)) (fun o k x => yt_rn _ _ (by omega)) (fun o k => rfl) (fun o k x y z => by rw [yt_in _ _ (by omega), yt_in _ _ (by omega), yps_i x (by omega)]) (fun o k => rfl)
  obtain ⟨τ1, e1, e2, hN2, f1, f2, -⟩ := yN_st hN1 hi
  have fS : yfS p s c σ (zs_wi (zs_wr σ (p + 5 + s) 0 1100) (p + 5 + s) 2 (nI d)) := ⟨fun o k _ _ _ _ _ => yt_in _ _ (by omega), fun o k _ _ _ => yt_rn _ _ (by omega), fun o k => rfl⟩
  have fT : yfT q s e τ (zs_wi (zs_wi (yps τ fr (3 * s)) (q + 10) s 0) (q + 11) s (nI wv)) := ⟨fun o k _ _ _ _ _ => by rw [yt_in _ _ (by omega), yt_in _ _ (by omega), yps_i (by omega) (by omega)], fun o k => rfl⟩
  have ec : zf_Parser_readAssignment_25 F (p + 5 + s) (nI d) σ = zq_d (zf_Parser_expect F 1024 (yadv v n i (zs_wi (zs_wr σ (p + 5 + s) 0 1100) (p + 5 + s) 2 (nI d)))) fun σ19 => zq_d (zf_Parser_readExpression F (p + 5 + s) σ19) fun σ22 => zq_c (zf_Parser_isVariable F (nI d) σ22) fun r26 σ25 => if r26 = 0 then zf_Parser_readAssignment_72 F σ25 else zq_v (zs_wi σ25 (p + 5 + s) 8 ((zs_i σ25 (p + 5 + s) 8) ||| (1 <<< (nI d &&& 31)))) fun σ28 => zf_Parser_readAssignment_72 F σ28 := by
    unfold zf_Parser_readAssignment_25
    rw [yp_sk hp hs, yq_g, yq_v, yq_v, e1, yq_s]
  have em : zf_M_statement_411 kS F (nI s) (nI wv) (nI s) (q + 11) (zs_wi (yps τ fr (3 * s)) (q + 10) s 0) = zq_c (zf_M_take F 1314 τ1) fun r148 σ147 => if r148 = 0 then zf_M_statement_446 kS F σ147 else zq_c (zf_M_whole F (nI s) σ147) fun r151 σ150 => if r151 = 0 then zf_M_statement_446 kS F σ150 else zq_c (zf_M_take F 1316 σ150) fun r154 σ153 => if r154 = 0 then zf_M_statement_446 kS F σ153 else zf_M_statement_447 kS F 1 σ153 := by
    unfold zf_M_statement_411
    rw [yv_k11 hq, yq_g, yv_z11 hq, yn_b hs (by decide), yq_g, nI_clamp (by omega), yq_v, e2, yq_s]
  rw [ec, em]
  have m446 : ∀ τ', zf_M_statement_446 kS F τ' = some (0, τ') := fun τ' => by
    unfold zf_M_statement_446 zf_M_statement_447
    rw [yz_0, yq_g]
  rcases yN_ex hN2 (yi_1314 hN2.2.2.1.1) (by decide) (by decide) (by decide) with ⟨-, τ2, x1, x2, x3, x4, x5, x6⟩ | ⟨x1, x2, x3⟩
  · rw [x1, x2, yq_s, yq_c, if_neg y01]
    obtain ⟨σ2, ⟨r, τ3⟩, e3, e4, ⟨w1, w2⟩, hw⟩ := yy_whole (s0 := s) hF x3 hs (by omega)
    have gS : yfS p s c σ σ2 := yfS_t fS (yfS_t (yfS_C f1) (yfS_t (yfS_C x4) (yfS_W hs w1) (Nat.le_refl s) (Nat.le_refl c)) (Nat.le_refl s) (Nat.le_refl c)) (Nat.le_refl s) (Nat.le_refl c)
    have gT : yfT q s e τ τ3 := yfT_t fT (yfT_t (yfT_M (yfM_L f2)) (yfT_t (yfT_M (yfM_L x5)) (yfT_V w2) (Nat.le_refl s) (Nat.le_refl e)) (Nat.le_refl s) (Nat.le_refl e)) (Nat.le_refl s) (Nat.le_refl e)
    rw [e3, e4, yq_s, yq_c]
    rcases hw with ⟨hr, i', a', c', e', l, g1, g2, g3, g4⟩ | ⟨hr, f, c', g1, g2, g3, -⟩
    · have hr : r = 1 := hr
      subst hr
      have g2 : yN F v n m p q t V L T i' (s + 1) a' c' e' σ2 τ3 := g2
      have g3 : yEx σ2 τ3 p q t V T s c c' e e' l := g3
      have w2 : yfV q e s τ2 τ3 := w2
      have ecl : (zq_c (zf_Parser_isVariable F (nI d) σ2) fun r26 σ25 => if r26 = 0 then zf_Parser_readAssignment_72 F σ25 else zq_v (zs_wi σ25 (p + 5 + s) 8 ((zs_i σ25 (p + 5 + s) 8) ||| (1 <<< (nI d &&& 31)))) fun σ28 => zf_Parser_readAssignment_72 F σ28) = zf_Parser_expect F 1023 (zs_wi σ2 (p + 5 + s) 8 (yu1 (l.foldl yu1 0) (1002, nI d))) := by
        rw [yy_isv hd1, yq_c]
        unfold zf_Parser_readAssignment_72
        by_cases h8 : d < 8
        · have hn8 : ((1002, nI d) : Nat × Int32).2 < 8 := nI_lt (b := 8) h8 (by omega)
          rw [if_pos h8, if_neg y01, yq_v, yq_d, g4]
          unfold yu1
          rw [if_pos ⟨rfl, hn8⟩]
        · have hn8 : ¬ ((1002, nI d) : Nat × Int32).2 < 8 := nI_nlt (b := 8) (by omega) (by omega)
          have hu : yu1 (l.foldl yu1 0) (1002, nI d) = l.foldl yu1 0 := if_neg (fun hh => hn8 hh.2)
          rw [if_neg h8, if_pos y00, yq_d, hu, yt_ws g4]
      rw [ecl, if_neg y01]
      have hN5 : yN F v n m p q t V L T i' (s + 1) a' c' e' (zs_wi σ2 (p + 5 + s) 8 (yu1 (l.foldl yu1 0) (1002, nI d))) τ3 := yN_o g2 (fun o k x => yt_in _ _ (by omega)) (fun o k x => rfl) (fun o k => rfl) (fun o k x y z => rfl) (fun o k => rfl)
      have fS5 : yfS p s c σ (zs_wi σ2 (p + 5 + s) 8 (yu1 (l.foldl yu1 0) (1002, nI d))) := yfS_t gS ⟨fun o k _ _ _ _ _ => yt_in _ _ (by omega), fun o k _ _ _ => rfl, fun o k => rfl⟩ (Nat.le_refl s) (Nat.le_refl c)
      rcases yN_ex hN5 (yi_1316 hN5.2.2.1.1) (by decide) (by decide) (by decide) with ⟨-, τ4, z1, z2, z3, z4, z5, z6⟩ | ⟨z1, z2, z3⟩
      · rw [z1, z2, yq_c, if_neg y01]
        unfold zf_M_statement_447
        rw [yz_1, yq_g]
        have hti : ∀ o k, ¬ (o = 1 ∧ 6 ≤ k ∧ k ≤ 14) → (o = 1 ∨ o = q + 9 ∨ o = q + 13 ∨ o = 57 ∨ o = q + 10 ∨ o = q + 11) → zs_i τ4 o k = zs_i (zs_wi (zs_wi (yps τ fr (3 * s)) (q + 10) s 0) (q + 11) s (nI wv)) o k := fun o k y1 y2 => by rw [z5.1 o k (by omega), w2.1 o k y1 (by omega) (by omega) (by omega), x5.1 o k (by omega), f2.1 o k (by omega)]
        have htj : ∀ o k, ¬ (o = 1 ∧ 6 ≤ k ∧ k ≤ 14) → (o = 1 ∨ o = q + 9 ∨ o = q + 13 ∨ o = 57) → zs_i τ4 o k = zs_i (yps τ fr (3 * s)) o k := fun o k y1 y2 => by rw [hti o k y1 (by omega), yt_in _ _ (by omega), yt_in _ _ (by omega)]
        have hci : ∀ k, k = 1 ∨ k = 5 ∨ k = 6 ∨ k = 7 → zs_i (yadv v n i' (zs_wi σ2 (p + 5 + s) 8 (yu1 (l.foldl yu1 0) (1002, nI d)))) (p + 5 + s) k = zs_i σ (p + 5 + s) k := fun k hk => by rw [z4.1 _ _ (by omega) (by omega) (by omega), yt_in _ _ (by omega), w1.1 _ _ (by omega) (by omega) (by omega) (by omega), x4.1 _ _ (by omega) (by omega) (by omega), f1.1 _ _ (by omega) (by omega) (by omega), yt_in _ _ (by omega), yt_ir]
        have hc2 : zs_i (yadv v n i' (zs_wi σ2 (p + 5 + s) 8 (yu1 (l.foldl yu1 0) (1002, nI d)))) (p + 5 + s) 2 = nI d := by rw [z4.1 _ _ (by omega) (by omega) (by omega), yt_in _ _ (by omega), w1.1 _ _ (by omega) (by omega) (by omega) (by omega), x4.1 _ _ (by omega) (by omega) (by omega), f1.1 _ _ (by omega) (by omega) (by omega), yt_ie]
        have hcr : zs_r (yadv v n i' (zs_wi σ2 (p + 5 + s) 8 (yu1 (l.foldl yu1 0) (1002, nI d)))) (p + 5 + s) 0 = 1100 := by rw [z4.2.1 _ _ (by omega) (by omega), yt_ri, w1.2.1 _ _ (by omega) (by omega), x4.2.1 _ _ (by omega) (by omega), f1.2.1 _ _ (by omega) (by omega), yt_ri, yt_re]
        have hk0 : zs_i τ4 (q + 10) s = nI 0 := by rw [hti _ _ (by omega) (by omega), yt_in _ _ (by omega), yt_ie]; rfl
        have hk1 : zs_i τ4 (q + 11) s = nI wv := by rw [hti _ _ (by omega) (by omega), yt_ie]
        refine yr_i rfl rfl (yKD_s h0 z3 (by omega) (op' := fr + 1) ((htj _ _ (by omega) (by omega)).trans yps_o) ⟨yfS_t fS5 (yfS_C z4) (Nat.le_refl s) (by omega), yfT_t gT (yfT_M (yfM_L (e := e') z5)) (Nat.le_refl s) (by omega)⟩ (fun k => (htj _ _ (by omega) (by omega)).trans (yps_i (by omega) (by omega))) (fun k => (htj _ _ (by omega) (by omega)).trans (yps_i (by omega) (by omega))) (fun j _ => (htj _ _ (by omega) (by omega)).trans (yps_i (by omega) (by omega))) hci ⟨0, by omega, hcr, hk0, fun _ => ⟨d, hc2, ?_, c, c', e, e', l, Nat.le_refl _, Nat.le_refl _, ?_, ?_⟩, fun k => by omega, fun k => by omega, fun k => by omega⟩ (Or.inr ⟨by rw [hcr]; decide, rfl, (htj _ _ (by omega) (by omega)).trans yps_e⟩))
        · rcases hd with ⟨y1, y2⟩ | ⟨y, y1, y2, y3⟩
          · exact Or.inl ⟨y1, by rw [hk1, y2]⟩
          · exact Or.inr ⟨y, y1, y2, by rw [hk1, y3]⟩
        · exact yEx_F g3 (Nat.le_refl _) (Nat.le_refl _) (fun k hk => by rw [z4.1 _ _ (by omega) (by omega) (by omega), yt_in _ _ (by omega)]) (fun k hk => ⟨by rw [z4.2.1 _ _ (by omega) (by omega), yt_ri], by rw [z4.1 _ _ (by omega) (by omega) (by omega), yt_in _ _ (by omega)]⟩) (z5.1 _ _ (by omega)) (fun k hk => z5.1 _ _ (by omega))
        · rw [z4.1 _ _ (by omega) (by omega) (by omega), yt_ie]
      · rw [z1, z2, yq_c, if_pos y00, m446]
        exact yr_i rfl rfl (Or.inr ⟨rfl, yKF_t (ygC_S hp fS5) (ygM_T gT) (yKF_X hp z3)⟩)
    · have hr : r = 0 := hr
      subst hr
      obtain ⟨σ3, j1, j2, j3⟩ := yk_asg (F := F) (s := s) (d := d) g1 hp hs hd1
      rw [if_pos y00, m446]
      exact yr_i j1 rfl (Or.inr ⟨rfl, ygC_t (ygC_S hp gS) j3, ygM_T gT, f, g3, j2, g2⟩)
  · rw [x1, x2, yq_s, yq_c, if_pos y00, m446]
    have hKF := yKF_t (ygC_t (ygC_S hp fS) (ygC_C f1 hp)) (ygM_t (ygM_T fT) (ygM_L f2)) (yKF_X hp x3)
    obtain ⟨q1, q2, f, q3, q4, q5⟩ := hKF
    obtain ⟨σ3, j1, j2, j3⟩ := yk_expr (F := F) (s0 := s) q4 hp (by omega) hs
    obtain ⟨σ4, j4, j5, j6⟩ := yk_asg (F := F) (s := s) (d := d) j2 hp hs hd1
    rw [j1, yq_s]
    exact yr_i j4 rfl (Or.inr ⟨rfl, ygC_t q1 (ygC_t j3 j6), q2, f, q3, j5, q5⟩)
theorem ykd_asg {i s a c e fr : Nat} {par x2 : Int32} {σ τ : zs_S} {kS : Int32 → Int32 → zs_S → Option (Int32 × zs_S)} (h : yPr F v n m p q t V L T i s a c e fr par σ τ) (hc : yx_c v n i = 1002) : yr (zf_Parser_readAssignment F (p + 5 + s) σ) (zf_M_statement kS F (nI s) x2 τ) (fun σ' r => yKD F v n m p q t V L T i s c e fr par σ τ r.1 σ' r.2) := by
  have h0 := h
  obtain ⟨hN, ⟨he, hfr, hs, hF⟩, hop, o1, o5, o6, o7, o8⟩ := h
  obtain ⟨k1, k2, k3, k4, hA, hp2, hq2⟩ := yN_tok hN
  have hp := hN.1.2.1
  have hq := hN.1.2.2
  have hNp : yN F v n m p q t V L T i (s + 1) a c e σ (yps τ fr (3 * s)) := yN_o hN (fun o k x => rfl) (fun o k x => rfl) (fun o k => rfl) (fun o k x y z => yps_i x (by omega)) (fun o k => rfl)
  have hAp := hNp.2.2.1.1
  have h12 := hNp.2.2.2.2.2.2.2
  have hVT : V ≤ 8 ∧ T ≤ 3 ∧ t < 4 ∧ L ≤ 4 ∧ zs_r (yps τ fr (3 * s)) 1 13 = q + 15 + 3 * t := by
    obtain ⟨C, K, kv, kl, kt, hS, hT⟩ := h12
    exact ⟨hS.1, hT.1, hT.2.1, hS.2.1, hT.2.2.2.2.1⟩
  obtain ⟨r, r0, r1, r2, e3, e4, e5, e6, hr⟩ := yy_look (F := F) (by omega) hN.1.1 hq hAp.1 hN.2.1 hc h12
  obtain ⟨j1, j2⟩ := yM_c hN.1.1 hNp.2.2.1 hc
  obtain ⟨fl1, fl2, fl3⟩ := yN_fl hNp
  have fT : yfT q s e τ (yps τ fr (3 * s)) := ⟨fun o k _ _ _ _ _ => yps_i (by omega) (by omega), fun o k => rfl⟩
  have em : zf_M_statement kS F (nI s) x2 τ = (if 0 ≤ r0 then zf_M_statement_380 kS F (nI s) r0 r1 (yps τ fr (3 * s)) else if 0 ≤ r1 then zf_M_statement_380 kS F (nI s) r0 r1 (yps τ fr (3 * s)) else some (0, zs_wi (yps τ fr (3 * s)) 1 11 (nI (yx_ps v n i)))) := by
    unfold zf_M_statement
    rw [yi_1310 hA, yq_c, if_neg (ytk_ne hc (by decide)), if_pos y00, yi_1312 hA, yq_c, if_neg (ytk_ne hc (by decide)), if_pos y00, yi_1313 hA, yq_c, if_neg (ytk_ne hc (by decide)), if_pos y00, hop, nI_1, yq_v, yn_b (show fr < 200 by omega) (by decide), yq_g, nI_clamp (by omega), yn_3, yq_v]
    show zq_c (zf_M_is F 1309 (yps τ fr (3 * s))) _ = _
    rw [yi_1309 hAp, yq_c, if_neg (ytk_ne hc (by decide)), if_pos y00, yy_name hAp, yq_c, if_pos (show (yx_tk v n (yx_ps v n i)).1 = 1002 from hc), if_neg y01, hVT.2.2.2.2, zq_qr (by omega), (yv_nt hq hVT.2.2.1).1.1, yq_g, j2, j1, e4, yq_c, hNp.2.2.1.2.2.1, zq_qr (by omega), yv_k hq, yq_g, yv_r0 hq, zq_qr (by omega), yv_k1 hq, yq_g, j2, j1, e5, yq_c, fl2, yq_c, yz_0, yq_g]
  have e380 : ∀ x3 x4, zf_M_statement_380 kS F (nI s) x3 x4 (yps τ fr (3 * s)) = if x3 < 0 then zf_M_statement_411 kS F (nI s) x4 (nI s) (q + 11) (zs_wi (yps τ fr (3 * s)) (q + 10) s 0) else zf_M_statement_411 kS F (nI s) (8 + x3) (nI s) (q + 11) (zs_wi (yps τ fr (3 * s)) (q + 10) s 0) := by
    intro x3 x4
    unfold zf_M_statement_380
    rw [hNp.2.2.1.2.2.1, zq_qr (by omega), yv_k hq, yq_g, yv_r7 hq, zq_qr (by omega), yv_k10 hq, yq_g, yv_z10 hq, yn_b hs (by decide), yq_g, nI_clamp (by omega), yq_v, yt_ri, hNp.2.2.1.2.2.1, zq_qr (by omega), yv_k hq, yq_g, yv_r8 hq, zq_qr (by omega)]
  have ecf : ∀ x, x < 100 → ¬ x < 8 → x < 20 → r = nI x → zf_Parser_readAssignment F (p + 5 + s) σ = some (yfl v n i σ) := by
    intro x x1 x2 x3 x4
    unfold zf_Parser_readAssignment
    rw [e3, yq_c, x4, yy_isv x1, yq_c, if_neg x2, if_pos y00, yy_isl x1, yq_c, if_pos x3, if_pos y00, fl1, yq_s]
  have hbad : yKD F v n m p q t V L T i s c e fr par σ τ 0 (yfl v n i σ) (zs_wi (yps τ fr (3 * s)) 1 11 (nI (yx_ps v n i))) := Or.inr ⟨rfl, yKF_t (ygC_r σ) (ygM_T fT) (yKF_X hp fl3)⟩
  rcases hr with ⟨x, x1, x2, x3⟩ | ⟨q0, ⟨x, x1, x2, x3, x4⟩ | ⟨x, x1, x2, x3, x4⟩ | ⟨x2, x3, x4⟩⟩
  · have ec : zf_Parser_readAssignment F (p + 5 + s) σ = zf_Parser_readAssignment_25 F (p + 5 + s) (nI (20 + 3 * t + x)) σ := by
      unfold zf_Parser_readAssignment
      rw [e3, yq_c, x2, yy_isv (by omega), yq_c, if_neg (show ¬ 20 + 3 * t + x < 8 by omega), if_pos y00, yy_isl (by omega), yq_c, if_neg (show ¬ 20 + 3 * t + x < 20 by omega), if_neg y01]
    rw [ec, em, x3, if_pos (nI_pos' (by omega)), e380, if_neg (nI_pos (by omega)), show (8 : Int32) + nI x = nI (8 + x) from nI_add 8 x]
    exact ykd_asg2 h0 hc ⟨hVT.1, hVT.2.1, hVT.2.2.1⟩ (Or.inr ⟨x, x1, rfl, rfl⟩)
  · have ec : zf_Parser_readAssignment F (p + 5 + s) σ = zf_Parser_readAssignment_25 F (p + 5 + s) (nI x) σ := by
      unfold zf_Parser_readAssignment
      rw [e3, yq_c, x2, yy_isv (by omega), yq_c, if_pos (show x < 8 by omega), if_neg y01]
    rw [ec, em, q0, if_neg (by decide), x3, if_pos (nI_pos' (by omega)), e380, if_pos (by decide)]
    exact ykd_asg2 h0 hc ⟨hVT.1, hVT.2.1, hVT.2.2.1⟩ (Or.inl ⟨x1, rfl⟩)
  · rw [ecf (8 + x) (by omega) (by omega) (by omega) x2, em, q0, if_neg (by decide), x3, if_neg (by decide)]
    exact yr_i rfl rfl hbad
  · have ec : zf_Parser_readAssignment F (p + 5 + s) σ = some (yfl v n i σ) := by
      unfold zf_Parser_readAssignment
      rw [e3, yq_c, x2, yy_isv2, yq_c, if_pos y00, yy_isl2, yq_c, if_pos y00, fl1, yq_s]
    rw [ec, em, q0, if_neg (by decide), x3, if_neg (by decide)]
    exact yr_i rfl rfl hbad
/-- a lock's name, and the end -/
theorem ykd_lt {i s a c e fr j k : Nat} {par : Int32} {σ τ σ' τ' : zs_S} {kS : Int32 → Int32 → zs_S → Option (Int32 × zs_S)} (h : yPr F v n m p q t V L T i s a c e fr par σ τ) (hN : yN F v n m p q t V L T j (s + 1) a c e σ' τ') (hij : i < j) (fS : yfS p s c σ σ') (fT : yfT q s e τ τ') (hci : ∀ k, k = 1 ∨ k = 5 ∨ k = 6 ∨ k = 7 ∨ k = 8 → zs_i σ' (p + 5 + s) k = zs_i σ (p + 5 + s) k) (hcr : zs_r σ' (p + 5 + s) 0 = 1100 + k) (hk : zs_i τ' (q + 10) s = nI k) (hk1 : 1 ≤ k) (hk5 : k ≤ 5) (hop : zs_i τ' 1 16 = nI (fr + 1)) (hpt : zs_i τ' 57 fr = nI (3 * s)) (hto : ∀ k, zs_i τ' (q + 13) k = zs_i τ (q + 13) k) (hst : ∀ k, zs_i τ' (q + 9) k = zs_i τ (q + 9) k) (hpo : ∀ k, k < fr → zs_i τ' 57 k = zs_i τ 57 k) : yr (zf_Parser_readLockUse_37 F (p + 5 + s) σ') (zf_M_statement_537 kS F (nI s) τ') (fun σ2 r => yKD F v n m p q t V L T i s c e fr par σ τ r.1 σ2 r.2) := by
  have h0 := h
  obtain ⟨-, ⟨he, hfr, hs, hF⟩, -, o1, o5, o6, o7, o8⟩ := h
  obtain ⟨k1, k2, k3, k4, hA, hp2, hq2⟩ := yN_tok hN
  have hp := hN.1.2.1
  have hq := hN.1.2.2
  have h12 := hN.2.2.2.2.2.2.2
  have hVT : V ≤ 8 ∧ T ≤ 3 ∧ t < 4 ∧ L ≤ 4 ∧ zs_r τ' 1 13 = q + 15 + 3 * t := by
    obtain ⟨C, K, kv, kl, kt, hS, hT⟩ := h12
    exact ⟨hS.1, hT.1, hT.2.1, hS.2.1, hT.2.2.2.2.1⟩
  have hNw : ∀ r, yN F v n m p q t V L T j (s + 1) a c e (zs_wi σ' (p + 5 + s) 2 r) τ' := fun r => yN_o hN (fun o k x => yt_in _ _ (by omega)) (fun o k x => rfl) (fun o k => rfl) (fun o k x y z => rfl) (fun o k => rfl)
  have fSw : ∀ r, yfS p s c σ (zs_wi σ' (p + 5 + s) 2 r) := fun r => yfS_t fS ⟨fun o k _ _ _ _ _ => yt_in _ _ (by omega), fun o k _ _ _ => rfl, fun o k => rfl⟩ (Nat.le_refl s) (Nat.le_refl c)
  obtain ⟨-, fl2, -⟩ := yN_fl hN
  have hbad : ∀ r, zf_Parser_find F 0 σ' = some (r, σ') → (∀ σ3, zf_Parser_isLock F r σ3 = some (0, σ3)) → zf_M_statement_537 kS F (nI s) τ' = some (0, zs_wi τ' 1 11 (nI (yx_ps v n j))) → yr (zf_Parser_readLockUse_37 F (p + 5 + s) σ') (zf_M_statement_537 kS F (nI s) τ') (fun σ2 r => yKD F v n m p q t V L T i s c e fr par σ τ r.1 σ2 r.2) := by
    intro r hf hl hm
    obtain ⟨x1, x2, x3⟩ := yN_fl (hNw r)
    rw [hm]
    refine yr_i (a := yfl v n j (zs_wi σ' (p + 5 + s) 2 r)) ?_ rfl (Or.inr ⟨rfl, yKF_t (ygC_S hp (fSw r)) (ygM_T fT) (yKF_X hp x3)⟩)
    unfold zf_Parser_readLockUse_37
    rw [hf, yq_c, yp_sk hp hs, yq_g, yq_v, yt_ie, hl, yq_c, if_pos y00, x1, yq_s]
  have m602 : zf_M_statement_602 kS F (nI s) (-1) τ' = some (0, zs_wi τ' 1 11 (nI (yx_ps v n j))) := by
    unfold zf_M_statement_602
    rw [if_neg (by decide), fl2, yq_c, yz_0, yq_g]
  by_cases hc : yx_c v n j = 1002
  · obtain ⟨r, r0, r1, r2, e3, e4, e5, e6, hr⟩ := yy_look (F := F) (by omega) hN.1.1 hq hA.1 hN.2.1 hc h12
    obtain ⟨j1, j2⟩ := yM_c hN.1.1 hN.2.2.1 hc
    have em : zf_M_statement_537 kS F (nI s) τ' = if 0 ≤ r0 then zf_M_statement_602 kS F (nI s) (-1) τ' else zf_M_statement_602 kS F (nI s) r2 τ' := by
      unfold zf_M_statement_537 zf_M_statement_601
      rw [yy_name hA, yq_c, if_pos (show (yx_tk v n (yx_ps v n j)).1 = 1002 from hc), if_neg y01, hVT.2.2.2.2, zq_qr (by omega), (yv_nt hq hVT.2.2.1).1.1, yq_g, j2, j1, e4, yq_c, hN.2.2.1.2.2.1, zq_qr (by omega), yv_k hq, yq_g, yv_r1 hq, zq_qr (by omega), yv_k4 hq, yq_g, j2, j1, e6, yq_c]
    rcases hr with ⟨x, x1, x2, x3⟩ | ⟨q0, ⟨x, x1, x2, x3, x4⟩ | ⟨x, x1, x2, x3, x4⟩ | ⟨x2, x3, x4⟩⟩
    · refine hbad r e3 (fun σ3 => ?_) ?_
      · rw [x2, yy_isk (by omega), if_neg (show ¬ (8 ≤ 20 + 3 * t + x ∧ 20 + 3 * t + x < 12) by omega)]
      · rw [em, x3, if_pos (nI_pos' (by omega)), m602]
    · refine hbad r e3 (fun σ3 => ?_) ?_
      · rw [x2, yy_isk (by omega), if_neg (show ¬ (8 ≤ x ∧ x < 12) by omega)]
      · rw [em, q0, if_neg (by decide), x4, m602]
    · have hi := yB_lt hN.1.1 k4 (by omega) (by omega)
      have hN1 : yN F v n m p q t V L T j (s + 1) a c e (zs_wi σ' (p + 5 + s) 2 (nI (8 + x))) (zs_wi τ' (q + 11) s (nI x)) := yN_o (hNw _) (fun o k x => rfl) (fun o k x => rfl) (fun o k => rfl) (fun o k x y z => yt_in _ _ (by omega)) (fun o k => rfl)
      obtain ⟨τ1, e1, e2, hN2, f1, f2, -⟩ := yN_st hN1 hi
      have fT1 : yfT q s e τ (zs_wi τ' (q + 11) s (nI x)) := yfT_t fT ⟨fun o k _ _ _ _ _ => yt_in _ _ (by omega), fun o k => rfl⟩ (Nat.le_refl s) (Nat.le_refl e)
      have ec : zf_Parser_readLockUse_37 F (p + 5 + s) σ' = zf_Parser_expect F 1023 (yadv v n j (zs_wi σ' (p + 5 + s) 2 (nI (8 + x)))) := by
        unfold zf_Parser_readLockUse_37
        rw [e3, yq_c, x2, yp_sk hp hs, yq_g, yq_v, yt_ie, yy_isk (by omega), yq_c, if_pos (show 8 ≤ 8 + x ∧ 8 + x < 12 by omega), if_neg y01, e1, yq_s, yq_d]
      have em2 : zf_M_statement_537 kS F (nI s) τ' = zq_c (zf_M_take F 1316 τ1) fun r198 σ197 => zq_g (zq_z r198) <| some (r198, σ197) := by
        rw [em, q0, if_neg (by decide), x4]
        unfold zf_M_statement_602
        rw [if_pos (nI_pos' (by omega)), hN.2.2.1.2.2.1, zq_qr (by omega), yv_k hq, yq_g, yv_r8 hq, zq_qr (by omega), yv_k11 hq, yq_g, yv_z11 hq, yn_b hs (by decide), yq_g, nI_clamp (by omega), yq_v, e2, yq_s]
      rw [ec, em2]
      rcases yN_ex hN2 (yi_1316 hN2.2.2.1.1) (by decide) (by decide) (by decide) with ⟨-, τ3, z1, z2, z3, z4, z5, z6⟩ | ⟨z1, z2, z3⟩
      · rw [z1, z2, yq_c, yz_1, yq_g]
        have hti : ∀ o k, ¬ (o = 1 ∧ 6 ≤ k ∧ k ≤ 10) → zs_i τ3 o k = zs_i (zs_wi τ' (q + 11) s (nI x)) o k := fun o k w1 => by rw [z5.1 o k w1, f2.1 o k w1]
        have htj : ∀ o k, ¬ (o = 1 ∧ 6 ≤ k ∧ k ≤ 10) → ¬ (o = q + 11 ∧ k = s) → zs_i τ3 o k = zs_i τ' o k := fun o k w1 w2 => by rw [hti o k w1, yt_in _ _ w2]
        have hcj : ∀ k, zs_i (yadv v n (j + 1) (yadv v n j (zs_wi σ' (p + 5 + s) 2 (nI (8 + x))))) (p + 5 + s) k = zs_i (zs_wi σ' (p + 5 + s) 2 (nI (8 + x))) (p + 5 + s) k := fun k => by rw [z4.1 _ _ (by omega) (by omega) (by omega), f1.1 _ _ (by omega) (by omega) (by omega)]
        have hcrr : zs_r (yadv v n (j + 1) (yadv v n j (zs_wi σ' (p + 5 + s) 2 (nI (8 + x))))) (p + 5 + s) 0 = 1100 + k := by rw [z4.2.1 _ _ (by omega) (by omega), f1.2.1 _ _ (by omega) (by omega), yt_ri, hcr]
        refine yr_i rfl rfl (yKD_s h0 z3 (by omega) (op' := fr + 1) ((htj _ _ (by omega) (by omega)).trans hop) ⟨yfS_t (fSw _) (yfS_t (yfS_C f1) (yfS_C z4) (Nat.le_refl s) (Nat.le_refl c)) (Nat.le_refl s) (Nat.le_refl c), yfT_t fT1 (yfT_t (yfT_M (yfM_L f2)) (yfT_M (yfM_L z5)) (Nat.le_refl s) (Nat.le_refl e)) (Nat.le_refl s) (Nat.le_refl e)⟩ (fun k => (htj _ _ (by omega) (by omega)).trans (hto k)) (fun k => (htj _ _ (by omega) (by omega)).trans (hst k)) (fun j hj => (htj _ _ (by omega) (by omega)).trans (hpo j hj)) (fun k hk => ?_) ⟨k, by omega, hcrr, (htj _ _ (by omega) (by omega)).trans hk, fun k => by omega, fun _ => ⟨x, x1, ?_, ?_, ?_⟩, fun k => by omega, fun k => by omega⟩ (Or.inr ⟨?_, rfl, (htj _ _ (by omega) (by omega)).trans hpt⟩))
        · rw [hcj, yt_in _ _ (by omega), hci k (by omega)]
        · rw [hcj, yt_ie]
        · rw [hti _ _ (by omega), yt_ie]
        · rw [hcj, yt_in _ _ (by omega), hci 8 (by omega), o8]
        · rw [hcrr]
          omega
      · rw [z1, z2, yq_c, yz_0, yq_g]
        exact yr_i rfl rfl (Or.inr ⟨rfl, yKF_t (ygC_t (ygC_S hp (fSw _)) (ygC_C f1 hp)) (ygM_t (ygM_T fT1) (ygM_L f2)) (yKF_X hp z3)⟩)
    · refine hbad r e3 (fun σ3 => ?_) ?_
      · rw [x2, yy_isk2]
      · rw [em, q0, if_neg (by decide), x4, m602]
  · refine hbad (-2) (yy_lookn hN.2.1 hN.1.1 hc (by omega) h12) (fun σ3 => yy_isk2 σ3) ?_
    unfold zf_M_statement_537 zf_M_statement_601
    rw [yy_name hA, yq_c, if_neg (show ¬ (yx_tk v n (yx_ps v n j)).1 = 1002 from hc), if_pos y00, m602]
theorem ykd_lock {i s a c e fr k : Nat} {par x2 : Int32} {σ τ : zs_S} {kS : Int32 → Int32 → zs_S → Option (Int32 × zs_S)} (h : yPr F v n m p q t V L T i s a c e fr par σ τ) (hc : yx_c v n i = 1008 + k) (hk1 : 1 ≤ k) (hk4 : k ≤ 4) : yr (zf_Parser_readLockUse F (p + 5 + s) (1100 + k) σ) (zf_M_statement kS F (nI s) x2 τ) (fun σ' r => yKD F v n m p q t V L T i s c e fr par σ τ r.1 σ' r.2) := by
  have h0 := h
  obtain ⟨hN, ⟨he, hfr, hs, hF⟩, hop, o1, o5, o6, o7, o8⟩ := h
  obtain ⟨k1, k2, k3, k4, hA, hp2, hq2⟩ := yN_tok hN
  have hp := hN.1.2.1
  have hq := hN.1.2.2
  have hi := yB_lt hN.1.1 k4 (by omega) (by omega)
  have hc2 : (yx_tk v n (yx_ps v n i)).1 = 1008 + k := hc
  have hNp : yN F v n m p q t V L T i (s + 1) a c e σ (yps τ fr (3 * s)) := yN_o hN (fun o k x => rfl) (fun o k x => rfl) (fun o k => rfl) (fun o k x y z => yps_i x (by omega)) (fun o k => rfl)
  have hAp := hNp.2.2.1.1
  have hN1 : yN F v n m p q t V L T i (s + 1) a c e (zs_wr σ (p + 5 + s) 0 (1100 + k)) (zs_wi (yps τ fr (3 * s)) (q + 10) s (nI k)) := yN_o hNp (fun o k x => rfl) (fun o k x => yt_rn _ _ (by omega)) (fun o k => rfl) (fun o k x y z => yt_in _ _ (by omega)) (fun o k => rfl)
  obtain ⟨τ1, e1, e2, hN2, f1, f2, -⟩ := yN_st hN1 hi
  obtain ⟨n1, n2, n3, n4, hA1, -, -⟩ := yN_tok hN2
  have fS : yfS p s c σ (zs_wr σ (p + 5 + s) 0 (1100 + k)) := ⟨fun o k _ _ _ _ _ => rfl, fun o k _ _ _ => yt_rn _ _ (by omega), fun o k => rfl⟩
  have fT : yfT q s e τ (zs_wi (yps τ fr (3 * s)) (q + 10) s (nI k)) := ⟨fun o k _ _ _ _ _ => by rw [yt_in _ _ (by omega), yps_i (by omega) (by omega)], fun o k => rfl⟩
  have gS : yfS p s c σ (yadv v n i (zs_wr σ (p + 5 + s) 0 (1100 + k))) := yfS_t fS (yfS_C f1) (Nat.le_refl s) (Nat.le_refl c)
  have gT : yfT q s e τ τ1 := yfT_t fT (yfT_M (yfM_L f2)) (Nat.le_refl s) (Nat.le_refl e)
  have hkk : zs_i τ1 (q + 10) s = nI k := by rw [f2.1 _ _ (by omega), yt_ie]
  have em : zf_M_statement kS F (nI s) x2 τ = zf_M_statement_496 kS F (nI s) (nI k) (nI s) (q + 10) (yps τ fr (3 * s)) := by
    unfold zf_M_statement
    rw [yi_1310 hA, yq_c, if_neg (ytk_ne hc (by omega)), if_pos y00, yi_1312 hA, yq_c, if_neg (ytk_ne hc (by omega)), if_pos y00, yi_1313 hA, yq_c, if_neg (ytk_ne hc (by omega)), if_pos y00, hop, nI_1, yq_v, yn_b (show fr < 200 by omega) (by decide), yq_g, nI_clamp (by omega), yn_3, yq_v]
    show zq_c (zf_M_is F 1309 (yps τ fr (3 * s))) _ = _
    rw [yi_1309 hAp, yq_c, if_neg (ytk_ne hc (by omega)), if_pos y00, yy_name hAp, yq_c, if_neg (ytk_ne hc (by omega)), if_pos y00, hNp.2.2.1.2.2.1, zq_qr (by omega), yv_k hq, yq_g, yv_r7 hq, zq_qr (by omega)]
    have hk : k = 1 ∨ k = 2 ∨ k = 3 ∨ k = 4 := by omega
    rcases hk with rfl | rfl | rfl | rfl
    · rw [yi_1304 hAp, yq_c, if_pos hc2, if_neg y01]
      rfl
    · rw [yi_1304 hAp, yq_c, if_neg (ytk_ne hc (by omega)), if_pos y00, yi_1305 hAp, yq_c, if_pos hc2, if_neg y01]
      rfl
    · rw [yi_1304 hAp, yq_c, if_neg (ytk_ne hc (by omega)), if_pos y00, yi_1305 hAp, yq_c, if_neg (ytk_ne hc (by omega)), if_pos y00, yi_1306 hAp, yq_c, if_pos hc2, if_neg y01]
      rfl
    · rw [yi_1304 hAp, yq_c, if_neg (ytk_ne hc (by omega)), if_pos y00, yi_1305 hAp, yq_c, if_neg (ytk_ne hc (by omega)), if_pos y00, yi_1306 hAp, yq_c, if_neg (ytk_ne hc (by omega)), if_pos y00]
      rfl
  have e496 : zf_M_statement_496 kS F (nI s) (nI k) (nI s) (q + 10) (yps τ fr (3 * s)) = if nI k = 4 then zq_c (zf_M_is F 1308 τ1) fun r100 σ99 => if r100 = 0 then zf_M_statement_537 kS F (nI s) σ99 else zq_q (zs_r σ99 1 12) fun q102 => zq_g (zq_k 1 q102 19) <| zq_q (zd_rf 1 q102 7) fun q104 => zq_g (zq_k 1 q104 0) <| zq_g (zq_b (nI s) (zd_sh 1 q104).2) <| zq_v (zs_wi σ99 q104 ((nI s).toNatClampNeg) 5) fun σ107 => zq_d (zf_M_step F σ107) fun σ108 => zf_M_statement_537 kS F (nI s) σ108 else zf_M_statement_537 kS F (nI s) τ1 := by
    unfold zf_M_statement_496
    rw [yv_k10 hq, yq_g, yv_z10 hq, yn_b hs (by decide), yq_g, nI_clamp (by omega), yq_v, e2, yq_s, hN2.2.2.1.2.2.1, zq_qr (by omega), yv_k hq, yq_g, yv_r7 hq, zq_qr (by omega), yv_k10 hq, yq_g, yv_z10 hq, yn_b hs (by decide), yq_g, hkk]
  have ec : zf_Parser_readLockUse F (p + 5 + s) (1100 + k) σ = if 1100 + k = 1104 then (if yx_c v n (i + 1) = 1013 then zq_d (zf_Parser_advance F (zs_wr (yadv v n i (zs_wr σ (p + 5 + s) 0 (1100 + k))) (p + 5 + s) 0 1105)) fun σ11 => zf_Parser_readLockUse_37 F (p + 5 + s) σ11 else zf_Parser_readLockUse_37 F (p + 5 + s) (yadv v n i (zs_wr σ (p + 5 + s) 0 (1100 + k)))) else zf_Parser_readLockUse_37 F (p + 5 + s) (yadv v n i (zs_wr σ (p + 5 + s) 0 (1100 + k))) := by
    unfold zf_Parser_readLockUse
    rw [yp_sk hp hs, yq_g, yn_n (by omega), yq_g, yq_v, e1, yq_s, yn_12 (by omega), yq_g, n1, zq_qr (by omega), yn_12 (by omega), yq_g, yq_v]
  rw [ec, em, e496]
  have tail : yr (zf_Parser_readLockUse_37 F (p + 5 + s) (yadv v n i (zs_wr σ (p + 5 + s) 0 (1100 + k)))) (zf_M_statement_537 kS F (nI s) τ1) (fun σ' r => yKD F v n m p q t V L T i s c e fr par σ τ r.1 σ' r.2) := by
    refine ykd_lt (k := k) h0 hN2 (by omega) gS gT (fun k hk => ?_) ?_ hkk hk1 (by omega) ?_ ?_ (fun k => ?_) (fun k => ?_) (fun k hk => ?_)
    · rw [f1.1 _ _ (by omega) (by omega) (by omega), yt_ir]
    · rw [f1.2.1 _ _ (by omega) (by omega), yt_re]
    · rw [f2.1 _ _ (by omega), yt_in _ _ (by omega), yps_o]
    · rw [f2.1 _ _ (by omega), yt_in _ _ (by omega), yps_e]
    · rw [f2.1 _ _ (by omega), yt_in _ _ (by omega), yps_i (by omega) (by omega)]
    · rw [f2.1 _ _ (by omega), yt_in _ _ (by omega), yps_i (by omega) (by omega)]
    · rw [f2.1 _ _ (by omega), yt_in _ _ (by omega), yps_i (by omega) (by omega)]
  by_cases hk : k = 4
  · rw [if_pos (show 1100 + k = 1104 by omega), if_pos (show nI k = (4 : Int32) by rw [hk]; rfl), yi_1308 hA1, yq_c]
    by_cases ha : yx_c v n (i + 1) = 1013
    · rw [if_pos ha, if_pos (show (yx_tk v n (yx_ps v n (i + 1))).1 = 1013 from ha), if_neg y01, hN2.2.2.1.2.2.1, zq_qr (by omega), yv_k hq, yq_g, yv_r7 hq, zq_qr (by omega), yv_k10 hq, yq_g, yv_z10 hq, yn_b hs (by decide), yq_g, nI_clamp (by omega), yq_v]
      have hi2 := yB_lt hN.1.1 n4 (by omega) (by omega)
      have hN3 : yN F v n m p q t V L T (i + 1) (s + 1) a c e (zs_wr (yadv v n i (zs_wr σ (p + 5 + s) 0 (1100 + k))) (p + 5 + s) 0 1105) (zs_wi τ1 (q + 10) s 5) := yN_o hN2 (fun o k x => rfl) (fun o k x => yt_rn _ _ (by omega)) (fun o k => rfl) (fun o k x y z => yt_in _ _ (by omega)) (fun o k => rfl)
      obtain ⟨τ2, d1, d2, hN4, g1, g2, -⟩ := yN_st hN3 hi2
      rw [d1, d2, yq_s, yq_s]
      refine ykd_lt (k := 5) h0 hN4 (by omega) (yfS_t gS (yfS_t (show yfS p s c _ (zs_wr (yadv v n i (zs_wr σ (p + 5 + s) 0 (1100 + k))) (p + 5 + s) 0 1105) from ⟨fun o k _ _ _ _ _ => rfl, fun o k _ _ _ => yt_rn _ _ (by omega), fun o k => rfl⟩) (yfS_C g1) (Nat.le_refl s) (Nat.le_refl c)) (Nat.le_refl s) (Nat.le_refl c)) (yfT_t gT (yfT_t (show yfT q s e _ (zs_wi τ1 (q + 10) s 5) from ⟨fun o k _ _ _ _ _ => yt_in _ _ (by omega), fun o k => rfl⟩) (yfT_M (yfM_L g2)) (Nat.le_refl s) (Nat.le_refl e)) (Nat.le_refl s) (Nat.le_refl e)) (fun k hk => ?_) ?_ ?_ (by omega) (by omega) ?_ ?_ (fun k => ?_) (fun k => ?_) (fun k hk => ?_)
      · rw [g1.1 _ _ (by omega) (by omega) (by omega), yt_ir, f1.1 _ _ (by omega) (by omega) (by omega), yt_ir]
      · rw [g1.2.1 _ _ (by omega) (by omega), yt_re]
      · rw [g2.1 _ _ (by omega), yt_ie]
        rfl
      · rw [g2.1 _ _ (by omega), yt_in _ _ (by omega), f2.1 _ _ (by omega), yt_in _ _ (by omega), yps_o]
      · rw [g2.1 _ _ (by omega), yt_in _ _ (by omega), f2.1 _ _ (by omega), yt_in _ _ (by omega), yps_e]
      · rw [g2.1 _ _ (by omega), yt_in _ _ (by omega), f2.1 _ _ (by omega), yt_in _ _ (by omega), yps_i (by omega) (by omega)]
      · rw [g2.1 _ _ (by omega), yt_in _ _ (by omega), f2.1 _ _ (by omega), yt_in _ _ (by omega), yps_i (by omega) (by omega)]
      · rw [g2.1 _ _ (by omega), yt_in _ _ (by omega), f2.1 _ _ (by omega), yt_in _ _ (by omega), yps_i (by omega) (by omega)]
    · rw [if_neg ha, if_neg (show ¬ (yx_tk v n (yx_ps v n (i + 1))).1 = 1013 from ha), if_pos y00]
      exact tail
  · have hk4' : ∀ k, k < 4 → ¬ nI k = (4 : Int32) := by decide
    rw [if_neg (show ¬ 1100 + k = 1104 by omega), if_neg (hk4' k (by omega))]
    exact tail
end YKC
