/-! threads: one thread -/
section YTI
variable {F n m p q t V L T : Nat} {v : Nat → Nat}
theorem yTh_thread {tt i s a c e : Nat} {B Tt : Nat → Nat} {σ τ : zs_S} (h : yTh F v n m p q V L tt B Tt i s a c e σ τ) : ∃ (σ' : zs_S) (r : Int32) (τ' : zs_S), zf_Parser_readThread F σ = some σ' ∧ zf_M_thread F τ = some (r, τ') ∧ ((r = 1 ∧ yx_c v n i = 1007 ∧ tt < 4 ∧ ygC p σ σ' ∧ ygM q τ τ' ∧ ∃ B' Tt' i' s' a' c' e', yTh F v n m p q V L (tt + 1) B' Tt' i' s' a' c' e' σ' τ') ∨ (r = 0 ∧ yKF p q σ τ σ' τ')) := by
  have h00 := h
  obtain ⟨⟨hB, hp, hq, hF⟩, hP, hM, ⟨h6, h7, h8⟩, ⟨h9, h9b, h9c⟩, ⟨h10, h10b⟩, ⟨h11, h11b⟩, ⟨hv0, hv1, h73⟩, ⟨C, K, kv, kl, hS⟩, ⟨ht0, ht1, ht2⟩, hval, ⟨hB0, hB1, hB2⟩, hthr⟩ := h
  have hp2 := yPP_b hp
  have hq2 := yQQ_b hq
  have hA := hM.1
  have htk := yB_t hB i
  have h76 := hP.2.2.2.2.1
  have h77 := hP.2.1
  obtain ⟨fl1, fl2⟩ := yKF_fl (F := F) hB hp hP hM
  have e2b := ym_bad (F := F) hM
  have m20 : zf_M_thread_20 F τ = some (0, zs_wi τ 1 11 (nI (yx_ps v n i))) := by
    unfold zf_M_thread_20
    rw [e2b, yq_c, yz_0, yq_g]
  have c23 : zf_Parser_readThread_23 F σ = some (yfl v n i σ) := by
    unfold zf_Parser_readThread_23
    rw [fl1, yq_s]
  have t4 : (nI tt = (4 : Int32)) = (tt = 4) := yn_eq (a := tt) (b := 4) (by omega) (by omega)
  have bad : (¬ yx_c v n i = 1007 ∨ tt = 4) → ∃ (σ' : zs_S) (r : Int32) (τ' : zs_S), zf_Parser_readThread F σ = some σ' ∧ zf_M_thread F τ = some (r, τ') ∧ ((r = 1 ∧ yx_c v n i = 1007 ∧ tt < 4 ∧ ygC p σ σ' ∧ ygM q τ τ' ∧ ∃ B' Tt' i' s' a' c' e', yTh F v n m p q V L (tt + 1) B' Tt' i' s' a' c' e' σ' τ') ∨ (r = 0 ∧ yKF p q σ τ σ' τ')) := by
    intro hb
    refine ⟨yfl v n i σ, 0, _, ?_, ?_, Or.inr ⟨rfl, fl2⟩⟩
    · unfold zf_Parser_readThread
      rw [h77, zq_qr (by omega), yp_k hp, yq_g, ht0, yq_v, h76, zq_qr (by omega), yn_12 (by omega), yq_g]
      by_cases hc : yx_c v n i = 1007
      · rw [if_pos hc, if_pos (t4.mpr (by omega)), c23]
      · rw [if_neg hc, c23]
    · unfold zf_M_thread
      rw [yi_1302 hA, yq_c]
      by_cases hc : yx_c v n i = 1007
      · rw [if_pos (show (yx_tk v n (yx_ps v n i)).1 = 1007 from hc), if_neg y01, hM.2.2.1, zq_qr (by omega), yv_k hq, yq_g, ht1, if_pos (t4.mpr (by omega)), m20]
      · rw [if_neg (show ¬ (yx_tk v n (yx_ps v n i)).1 = 1007 from hc), if_pos y00, m20]
  by_cases hbb : ¬ yx_c v n i = 1007 ∨ tt = 4
  · exact bad hbb
  have hc : yx_c v n i = 1007 := Classical.byContradiction (fun hh => hbb (Or.inl hh))
  have htt : tt < 4 := by
    have : ¬ tt = 4 := fun hh => hbb (Or.inr hh)
    omega
  clear bad hbb
  have hi := yB_lt hB hP.2.2.2.2.2.1 (by omega) (by omega)
  obtain ⟨o1, o2, o3, o4, o5, o6, o7, o8, o9⟩ := id (yv_nt hq htt).1
  -- ahead of the brace
  have hP1 : yP v n m p i (zs_wi (zs_wi (zs_wi σ p 2 (nI (tt + 1))) (p + 2) tt 0) 7 2 (nI (V + L))) := by
    obtain ⟨b1, b2, b3, b4, b5, b6, b7⟩ := hP
    exact ⟨b1, b2, by simp (disch := omega) only [yt_in, yt_ie, yt_ir, yt_il, yt_ri, yt_rl, yt_rn, yt_re, yt_li, yt_lr, yt_ln, yt_le]; exact b3, by simp (disch := omega) only [yt_in, yt_ie, yt_ir, yt_il, yt_ri, yt_rl, yt_rn, yt_re, yt_li, yt_lr, yt_ln, yt_le]; exact b4, b5, b6, yx_rowsF b7 (fun k => rfl) (fun k => by simp (disch := omega) only [yt_in, yt_ie, yt_ir, yt_il, yt_ri, yt_rl, yt_rn, yt_re, yt_li, yt_lr, yt_ln, yt_le]) (fun k => rfl)⟩
  obtain ⟨e1, hP2⟩ := yy_adv (F := F) hB hP1 hi
  obtain ⟨τ1, e2, hM1, f1⟩ := yw_e (ym_step hB hM hi)
  have gC2 : ygC p σ (yadv v n i (zs_wi (zs_wi (zs_wi σ p 2 (nI (tt + 1))) (p + 2) tt 0) 7 2 (nI (V + L)))) := by
    unfold yadv
    exact ⟨fun o k x y => ⟨by simp (disch := omega) only [yt_in, yt_ie, yt_ir, yt_il, yt_ri, yt_rl, yt_rn, yt_re, yt_li, yt_lr, yt_ln, yt_le], by simp (disch := omega) only [yt_in, yt_ie, yt_ir, yt_il, yt_ri, yt_rl, yt_rn, yt_re, yt_li, yt_lr, yt_ln, yt_le], rfl⟩, rfl, rfl⟩
  have ec0 : ∀ σ3, zf_Parser_expect F 1019 (yadv v n i (zs_wi (zs_wi (zs_wi σ p 2 (nI (tt + 1))) (p + 2) tt 0) 7 2 (nI (V + L)))) = some σ3 → zf_Parser_readThread F σ = zf_Parser_readThread_72 F F (nI tt) (nI 0) σ3 := by
    intro σ3 h3
    have w73 : zs_i (zs_wi (zs_wi σ p 2 (nI (tt + 1))) (p + 2) tt 0) 7 3 = nI (V + L) := by
      simp (disch := omega) only [yt_in, yt_ie, yt_ir, yt_il, yt_ri, yt_rl, yt_rn, yt_re, yt_li, yt_lr, yt_ln, yt_le]
      exact h73
    unfold zf_Parser_readThread
    rw [h77, zq_qr (by omega), yp_k hp, yq_g, ht0, yq_v, h76, zq_qr (by omega), yn_12 (by omega), yq_g, if_pos hc, if_neg (fun hh => by have := t4.mp hh; omega), zq_qr (by omega), yp_k hp, yq_g, ht0, nI_1, yq_v, yt_ri, h77, zq_qr (by omega), yp_k hp, yq_g, yp_r5 hp, zq_qr (by omega), yp_k2 hp, yq_g, yp_z2 hp, yn_b htt (by decide), yq_g, nI_clamp (by omega), yq_v, w73, yq_v, e1, yq_s, h3, yq_s]
    rfl
  have em0 : zf_M_thread F τ = zq_c (zf_M_take F 1317 τ1) fun r10 σ9 => if r10 = 0 then some (0, σ9) else zq_q (zs_r σ9 1 12) fun q12 => zq_g (zq_k 1 q12 19) <| zq_v (zs_i σ9 q12 5) fun v14 => zq_q (zs_r σ9 1 12) fun q15 => zq_g (zq_k 1 q15 19) <| zq_q (zd_rf 1 q15 2) fun q17 => zq_g (zq_k 1 q17 6) <| zq_g (zq_b v14 (zd_sh 1 q17).2) <| zq_q (zd_rf 1 q17 (v14).toNatClampNeg) fun q20 => zq_v (zs_wr σ9 1 13 q20) fun σ21 => zq_q (zs_r σ21 1 13) fun q22 => zq_g (zq_k 1 q22 20) <| zq_v (zs_wi σ21 q22 2 0) fun σ24 => zq_q (zs_r σ24 1 12) fun q25 => zq_g (zq_k 1 q25 19) <| zq_v (zs_wi σ24 q25 5 ((zs_i σ24 q25 5) + 1)) fun σ27 => zf_M_thread_82 F F v14 σ27 := by
    unfold zf_M_thread
    rw [yi_1302 hA, yq_c, if_pos (show (yx_tk v n (yx_ps v n i)).1 = 1007 from hc), if_neg y01, hM.2.2.1, zq_qr (by omega), yv_k hq, yq_g, ht1, if_neg (fun hh => by have := t4.mp hh; omega), e2, yq_s]
  by_cases hbr : yx_c v n (i + 1) = 1019
  · have hi1 := yB_lt hB hP2.2.2.2.2.2.1 (by omega) (by omega)
    obtain ⟨e3, hP3⟩ := yy_exp (F := F) hB hP2 hbr (by decide) (by decide)
    obtain ⟨τ2, e4, hM2, f2⟩ := yw_e (ym_step hB hM1 hi1)
    have e5 : zf_M_take F 1317 τ1 = some (1, τ2) := by
      unfold zf_M_take
      rw [yi_1317 hM1.1, if_pos (show (yx_tk v n (yx_ps v n (i + 1))).1 = 1019 from hbr), yq_c, if_neg y01, e4, yq_s]
    have f12 : ∀ o k, ¬ (o = 1 ∧ 6 ≤ k ∧ k ≤ 10) → zs_i τ2 o k = zs_i τ o k := fun o k x => (f2.1 o k x).trans (f1.1 o k x)
    have f12r : ∀ o k, zs_r τ2 o k = zs_r τ o k := fun o k => (f2.2 o k).trans (f1.2 o k)
    have w5 : zs_i τ2 q 5 = nI tt := (f12 _ _ (by omega)).trans ht1
    have w5b : zs_i (zs_wi (zs_wr τ2 1 13 (q + 15 + 3 * tt)) (q + 15 + 3 * tt) 2 0) q 5 = nI tt := by
      rw [yt_in _ _ (by omega), yt_ir, w5]
    have em1 : zf_M_thread F τ = zf_M_thread_82 F F (nI tt) (zs_wi (zs_wi (zs_wr τ2 1 13 (q + 15 + 3 * tt)) (q + 15 + 3 * tt) 2 0) q 5 (nI (tt + 1))) := by
      rw [em0, e5, yq_c, if_neg y01, hM2.2.2.1, zq_qr (by omega), yv_k hq, yq_g, w5, yq_v, zq_qr (by omega), yv_k hq, yq_g, yv_r2 hq, zq_qr (by omega), yv_k7 hq, yq_g, yv_z7 hq, yn_b htt (by decide), yq_g, nI_clamp (by omega), (yv_nt hq htt).2, zq_qr (by omega), yq_v, yt_re, zq_qr (by omega), o1, yq_g, yq_v, yt_ri, yt_rn _ _ (by omega), hM2.2.2.1, zq_qr (by omega), yv_k hq, yq_g, w5b, nI_1, yq_v]
    have ec1 := ec0 _ e3
    -- the class's store behind the brace
    have k3i : ∀ o k, ¬ (o = 7 ∧ (k = 2 ∨ 5 ≤ k)) → ¬ (o = p ∧ k = 2) → ¬ (o = p + 2 ∧ k = tt) → zs_i (yadv v n (i + 1) (yadv v n i (zs_wi (zs_wi (zs_wi σ p 2 (nI (tt + 1))) (p + 2) tt 0) 7 2 (nI (V + L))))) o k = zs_i σ o k := fun o k x y z => by
      unfold yadv
      simp (disch := omega) only [yt_in, yt_ie, yt_ir, yt_il, yt_ri, yt_rl, yt_rn, yt_re, yt_li, yt_lr, yt_ln, yt_le]
    have k3r : ∀ o k, o ≠ 7 → zs_r (yadv v n (i + 1) (yadv v n i (zs_wi (zs_wi (zs_wi σ p 2 (nI (tt + 1))) (p + 2) tt 0) 7 2 (nI (V + L))))) o k = zs_r σ o k := fun o k x => by
      unfold yadv
      simp (disch := omega) only [yt_in, yt_ie, yt_ir, yt_il, yt_ri, yt_rl, yt_rn, yt_re, yt_li, yt_lr, yt_ln, yt_le]
    have k3l : ∀ o k, zs_l (yadv v n (i + 1) (yadv v n i (zs_wi (zs_wi (zs_wi σ p 2 (nI (tt + 1))) (p + 2) tt 0) 7 2 (nI (V + L))))) o k = zs_l σ o k := fun o k => rfl
    have k372 : zs_i (yadv v n (i + 1) (yadv v n i (zs_wi (zs_wi (zs_wi σ p 2 (nI (tt + 1))) (p + 2) tt 0) 7 2 (nI (V + L))))) 7 2 = nI (V + L) := by
      unfold yadv
      simp (disch := omega) only [yt_in, yt_ie, yt_ir, yt_il, yt_ri, yt_rl, yt_rn, yt_re, yt_li, yt_lr, yt_ln, yt_le]
    have k379 : zs_i (yadv v n (i + 1) (yadv v n i (zs_wi (zs_wi (zs_wi σ p 2 (nI (tt + 1))) (p + 2) tt 0) 7 2 (nI (V + L))))) 7 9 = zs_i σ 7 9 := by
      unfold yadv
      simp (disch := omega) only [yt_in, yt_ie, yt_ir, yt_il, yt_ri, yt_rl, yt_rn, yt_re, yt_li, yt_lr, yt_ln, yt_le]
    have k3p : zs_i (yadv v n (i + 1) (yadv v n i (zs_wi (zs_wi (zs_wi σ p 2 (nI (tt + 1))) (p + 2) tt 0) 7 2 (nI (V + L))))) p 2 = nI (tt + 1) := by
      unfold yadv
      simp (disch := omega) only [yt_in, yt_ie, yt_ir, yt_il, yt_ri, yt_rl, yt_rn, yt_re, yt_li, yt_lr, yt_ln, yt_le]
    have k3t : zs_i (yadv v n (i + 1) (yadv v n i (zs_wi (zs_wi (zs_wi σ p 2 (nI (tt + 1))) (p + 2) tt 0) 7 2 (nI (V + L))))) (p + 2) tt = nI 0 := by
      unfold yadv
      simp (disch := omega) only [yt_in, yt_ie, yt_ir, yt_il, yt_ri, yt_rl, yt_rn, yt_re, yt_li, yt_lr, yt_ln, yt_le]
      rfl
    have k377 : zs_r (yadv v n (i + 1) (yadv v n i (zs_wi (zs_wi (zs_wi σ p 2 (nI (tt + 1))) (p + 2) tt 0) 7 2 (nI (V + L))))) 7 7 = zs_r σ 7 7 := rfl
    have k374 : zs_r (yadv v n (i + 1) (yadv v n i (zs_wi (zs_wi (zs_wi σ p 2 (nI (tt + 1))) (p + 2) tt 0) 7 2 (nI (V + L))))) 7 4 = zs_r σ 7 4 := rfl
    clear ec0 e3 e1
    generalize yadv v n (i + 1) (yadv v n i (zs_wi (zs_wi (zs_wi σ p 2 (nI (tt + 1))) (p + 2) tt 0) 7 2 (nI (V + L)))) = σ3 at *
    -- the reference's
    have k4i : ∀ o k, ¬ (o = 1 ∧ 6 ≤ k ∧ k ≤ 10) → ¬ (o = q ∧ k = 5) → ¬ (o = q + 15 + 3 * tt ∧ k = 2) → zs_i (zs_wi (zs_wi (zs_wr τ2 1 13 (q + 15 + 3 * tt)) (q + 15 + 3 * tt) 2 0) q 5 (nI (tt + 1))) o k = zs_i τ o k := fun o k x y z => by rw [yt_in _ _ (by omega), yt_in _ _ (by omega), yt_ir, f12 o k x]
    have k4r : ∀ o k, ¬ (o = 1 ∧ k = 13) → zs_r (zs_wi (zs_wi (zs_wr τ2 1 13 (q + 15 + 3 * tt)) (q + 15 + 3 * tt) 2 0) q 5 (nI (tt + 1))) o k = zs_r τ o k := fun o k x => by rw [yt_ri, yt_ri, yt_rn _ _ x, f12r]
    have k413 : zs_r (zs_wi (zs_wi (zs_wr τ2 1 13 (q + 15 + 3 * tt)) (q + 15 + 3 * tt) 2 0) q 5 (nI (tt + 1))) 1 13 = q + 15 + 3 * tt := by rw [yt_ri, yt_ri, yt_re]
    have k45 : zs_i (zs_wi (zs_wi (zs_wr τ2 1 13 (q + 15 + 3 * tt)) (q + 15 + 3 * tt) 2 0) q 5 (nI (tt + 1))) q 5 = nI (tt + 1) := yt_ie _ _ _ _
    have k4m : zs_i (zs_wi (zs_wi (zs_wr τ2 1 13 (q + 15 + 3 * tt)) (q + 15 + 3 * tt) 2 0) q 5 (nI (tt + 1))) (q + 15 + 3 * tt) 2 = nI 0 := by
      rw [yt_in _ _ (by omega), yt_ie]
      rfl
    have hM4 : yM F v n m q (i + 1 + 1) (zs_wi (zs_wi (zs_wr τ2 1 13 (q + 15 + 3 * tt)) (q + 15 + 3 * tt) 2 0) q 5 (nI (tt + 1))) := yM_L hM2 (fun k => by rw [yt_in _ _ (by omega), yt_in _ _ (by omega), yt_ir]) (fun k _ _ => by rw [yt_in _ _ (by omega), yt_in _ _ (by omega), yt_ir]) (by rw [yt_ri, yt_ri, yt_rn _ _ (by omega)])
    generalize zs_wi (zs_wi (zs_wr τ2 1 13 (q + 15 + 3 * tt)) (q + 15 + 3 * tt) 2 0) q 5 (nI (tt + 1)) = τ4 at *
    have hN4 : yN F v n m p q tt V L 0 (i + 1 + 1) s a c e σ3 τ4 := by
      refine ⟨⟨hB, hp, hq⟩, hP3, hM4, ⟨(k3i _ _ (by omega) (by omega) (by omega)).trans h6, (k4i _ _ (by omega) (by omega) (by omega)).trans h7, h8⟩, ⟨k379.trans h9, (k4i _ _ (by omega) (by omega) (by omega)).trans h9b, h9c⟩, ⟨(k3i _ _ (by omega) (by omega) (by omega)).trans h10, by omega⟩, ⟨(k4i _ _ (by omega) (by omega) (by omega)).trans h11, h11b⟩, ⟨C, K, kv, kl, fun _ => 0, yNS_F hS (fun k _ => k3l 8 k) (fun k _ => k3i _ _ (by omega) (by omega) (by omega)) (fun o k x y => k4i _ _ (by omega) (by omega) (by omega)), ⟨by omega, htt, by rw [k372]; rfl, (k3i _ _ (by omega) (by omega) (by omega)).trans h73, k413, k4m, fun x hx => by omega, fun x y hx => by omega⟩⟩⟩
    have gC3 : ygC p σ σ3 := ⟨fun o k x y => ⟨k3i o k (by omega) (by omega) (by omega), k3r o k (by omega), k3l o k⟩, k377, k374⟩
    have gM4 : ygM q τ τ4 := ⟨fun o k x y z => k4i o k (by omega) (by omega) (by omega), fun o k x => k4r o k x⟩
    rw [ec1, em1]
    rcases yN_locs (i0 := i + 1 + 1) (σ0 := σ3) (τ0 := τ4) hF hp hq htt 4 0 F F (i + 1 + 1) σ3 τ4 (by omega) (by omega) (by omega) hN4 k3t (Nat.le_refl _) (fun _ _ _ _ _ => rfl) (fun _ _ _ => rfl) (fun _ _ _ => rfl) rfl rfl (fun _ _ _ _ => rfl) (fun _ _ => rfl) with ⟨σ', τ', x1, x2, x3⟩ | ⟨T', M', i5, σ5, τ5, x1, x2, x3, x4, hN5, x5, x6, x7, x8, x9, x10, x11, x12⟩
    · exact ⟨σ', 0, τ', x1, x2, Or.inr ⟨rfl, yKF_t gC3 gM4 x3⟩⟩
    · rw [x1, x2]
      obtain ⟨k1, k2, k3, k4, hA5, -, -⟩ := yN_tok hN5
      -- the row of statements
      have k6i : ∀ o k, ¬ (o = 1 ∧ k = 16) → ¬ (o = 57 ∧ k = 0) → zs_i (zs_wi (zs_wi (zs_wi τ5 1 16 0) 1 16 (nI 1)) 57 0 (-1 - nI tt)) o k = zs_i τ5 o k := fun o k x y => by rw [yt_in _ _ y, yt_in _ _ x, yt_in _ _ x]
      have hN6 : yN F v n m p q tt V L T' i5 s a c e σ5 (zs_wi (zs_wi (zs_wi τ5 1 16 0) 1 16 (nI 1)) 57 0 (-1 - nI tt)) := yN_o hN5 (fun o k x => rfl) (fun o k x => rfl) (fun o k => rfl) (fun o k x y z => k6i o k x (by omega)) (fun o k => rfl)
      have hq6 : yBq F v n m p q tt V L T' i5 s a c e 0 (-1) (-1 - nI tt) σ5 (zs_wi (zs_wi (zs_wi τ5 1 16 0) 1 16 (nI 1)) 57 0 (-1 - nI tt)) := ⟨hN6, ⟨by omega, hF⟩, by rw [yt_in _ _ (by omega), yt_ie], yt_ie _ _ _ _, Or.inr ⟨tt, htt, rfl⟩, Or.inl rfl⟩
      obtain ⟨σ7, ⟨r, τ7⟩, e7, e8, hx⟩ := yx_stats hF 8 0 (by omega) (by omega) _ _ _ _ _ _ _ _ _ _ hq6
      have e7' : zf_Parser_readStatements F 8 (-1) 0 σ5 = some σ7 := e7
      have e8' : zf_M_statements F 8 0 0 (zs_wi (zs_wi (zs_wi τ5 1 16 0) 1 16 (nI 1)) 57 0 (-1 - nI tt)) = some (r, τ7) := e8
      have h5sz : zs_i σ5 p 3 = nI s := hN5.2.2.2.1.1
      have em6 : zf_M_thread_82 F (M' + 1) (nI tt) τ5 = if r = 0 then some (0, τ7) else zq_d (zf_M_lead F 0 (-1) τ7) fun σ41 => some (1, σ41) := by
        rw [zf_M_thread_82, yi_1303 hA5, yq_c, if_neg (show ¬ (yx_tk v n (yx_ps v n i5)).1 = 1008 from x3), if_pos y00, yq_v, yt_ie, yq_v, show (0 : Int32) + 1 = nI 1 from rfl, show zq_b 0 200 = true from by decide, yq_g, show (0 : Int32).toNatClampNeg = 0 from by decide, yq_v, e8', yq_c]
      have ec6 : ∀ x, (if zs_i σ7 p 3 ≤ nI s then (-1 : Int32) else nI s) = x → zs_r σ7 7 7 = p → zf_Parser_readThread_98 F (nI tt) σ5 = zf_Parser_expect F 1020 (zs_wi σ7 (p + 3) tt x) := by
        intro x hx hr7
        have e136 : ∀ x, zf_Parser_readThread_136 F x (nI tt) (p + 3) σ7 = zf_Parser_expect F 1020 (zs_wi σ7 (p + 3) tt x) := by
          intro x
          unfold zf_Parser_readThread_136
          rw [yp_k3 hp, yq_g, yp_z3 hp, yn_b htt (by decide), yq_g, nI_clamp (by omega), yq_v, yq_d]
        unfold zf_Parser_readThread_98
        rw [hN5.2.1.2.1, zq_qr (by omega), yp_k hp, yq_g, h5sz, yq_v, e7', yq_s, hr7, zq_qr (by omega), yp_k hp, yq_g, yp_r6 hp, zq_qr (by omega), zq_qr (by omega), yp_k hp, yq_g, e136, e136]
        by_cases hle : zs_i σ7 p 3 ≤ nI s
        · rw [if_pos hle] at hx ⊢
          rw [hx]
        · rw [if_neg hle] at hx ⊢
          rw [hx]
      have gC5 : ygC p σ σ5 := ygC_t gC3 ⟨fun o k x y => ⟨x6 o k (by omega) (by omega) (by omega), x7 o k (by omega), x8 o k (by omega)⟩, x9, x10⟩
      have gM6 : ygM q τ (zs_wi (zs_wi (zs_wi τ5 1 16 0) 1 16 (nI 1)) 57 0 (-1 - nI tt)) := ygM_t gM4 ⟨fun o k x y z => by rw [k6i o k (by omega) (by omega), x11 o k (by omega) (by omega)], fun o k _ => x12 o k⟩
      rcases Or.symm hx with ⟨hr, g1, g2, f, g3, g4, g5⟩ | ⟨hr, i7, s7, a7, c7, e7n, op7, ⟨y1, y2, yN9⟩, ⟨m1, m2, m3, m4, m5, m6, m7⟩, ⟨fS, fT⟩, ⟨l1, l2, l3⟩, hrow, hfl⟩
      · have hr : r = 0 := hr
        subst hr
        have hk8 : ∀ x, yK p (nI f) (zs_wi σ7 (p + 3) tt x) := fun x => yK_F g4 (fun k => yt_in _ _ (by omega)) (fun k => rfl)
        refine ⟨_, 0, τ7, (ec6 _ rfl g4.2.1).trans (yy_kexp (hk8 _) (by decide) (by decide)), by rw [em6, if_pos y00], Or.inr ⟨rfl, ygC_t gC5 (ygC_t g1 ⟨fun o k x y => ⟨yt_in _ _ (by omega), rfl, rfl⟩, rfl, rfl⟩), ygM_t gM6 g2, f, g3, hk8 _, g5⟩⟩
      · have hr : r = 1 := hr
        subst hr
        have yN9 : yN F v n m p q tt V L T' (i7 + 1) s7 a7 c7 e7n (yadv v n i7 σ7) τ7 := yN9
        have m7 : zs_i τ7 1 16 = nI op7 := m7
        have fT : yfT q s e (zs_wi (zs_wi (zs_wi τ5 1 16 0) 1 16 (nI 1)) 57 0 (-1 - nI tt)) τ7 := fT
        obtain ⟨-, -, hM7, ⟨v6, v7, v8⟩, ⟨v9, v9b, v9c⟩, ⟨v10, v10b⟩, ⟨v11, v11b⟩, ⟨C', K', kv', kl', kt', hS7, hT7⟩⟩ := yN9
        have ya : ∀ o k, o ≠ 7 → zs_i (yadv v n i7 σ7) o k = zs_i σ7 o k := fun o k x => by
          unfold yadv
          rw [yt_ir, yt_in _ _ (by omega)]
        have hsz7 : zs_i σ7 p 3 = nI s7 := (ya _ _ (by omega)).symm.trans v6
        have hent : ∃ x, (if zs_i σ7 p 3 ≤ nI s then (-1 : Int32) else nI s) = x ∧ ((s = s7 ∧ x = -1) ∨ (s < s7 ∧ x = nI s)) := by
          refine ⟨_, rfl, ?_⟩
          rw [hsz7]
          by_cases hle : s7 ≤ s
          · rw [if_pos (nI_le hle (by omega))]
            exact Or.inl ⟨by omega, rfl⟩
          · rw [if_neg (nI_ge (by omega) (by omega))]
            exact Or.inr ⟨by omega, rfl⟩
        obtain ⟨ent, he1, he2⟩ := hent
        have hP8 : yP v n m p i7 (zs_wi σ7 (p + 3) tt ent) := by
          obtain ⟨b1, b2, b3, b4, b5, b6, b7⟩ := y2
          exact ⟨b1, b2, by rw [yt_in _ _ (by omega)]; exact b3, by rw [yt_in _ _ (by omega)]; exact b4, b5, b6, yx_rowsF b7 (fun k => rfl) (fun k => yt_in _ _ (by omega)) (fun k => rfl)⟩
        obtain ⟨e9, hP9⟩ := yy_exp (F := F) hB hP8 y1 (by decide) (by decide)
        -- what stands open leads nowhere
        have hsh : ∀ j, 0 ≤ j → j < op7 → (s7 = s ∧ zs_i τ7 57 j = -1 - nI tt) ∨ (s < s7 ∧ ∃ x w, w < 3 ∧ s ≤ x ∧ x < s7 ∧ zs_i τ7 57 j = nI (3 * x + w)) := by
          intro j _ j2
          by_cases hss : s7 = s
          · obtain ⟨d1, d2, -, -⟩ := l2 hss
            have : j = 0 := by omega
            subst this
            exact Or.inl ⟨hss, d2.trans (yt_ie _ _ _ _)⟩
          · obtain ⟨g, hg⟩ := yEq_ex (K := 0) s7 (by omega) (fun x x1 x2 => (hrow x x1 x2).2.1)
            obtain ⟨x, w, w1, x1, x2, x3, -⟩ := (hfl (by omega) g 0 hg).1 j (by omega) j2
            exact Or.inr ⟨by omega, x, w, w1, x1, x2, x3⟩
        obtain ⟨τ8, t1, t2, t3, t4', t5, t6, t7, t8⟩ := ym_lead (F := F) (x := -1) (fr := 0) hq 200 F op7 τ7 (by omega) (by omega) (by omega) (by omega) hM7.2.2.1 m7 (fun j j1 j2 => by
          rcases hsh j j1 j2 with ⟨-, x3⟩ | ⟨-, x, w, w1, x1, x2, x3⟩
          · exact Or.inr ⟨tt, htt, x3⟩
          · exact Or.inl ⟨_, by omega, x3⟩)
        have elead : zf_M_lead F 0 (-1) τ7 = some τ8 := t1
        have hto8 : ∀ k, k < 3 * s → zs_i τ8 (q + 13) k = zs_i τ (q + 13) k := by
          intro k hk
          rw [t4' k (by omega) (fun ⟨j, j1, j2, j3⟩ => by
            rcases hsh j j1 j2 with ⟨-, x3⟩ | ⟨-, x, w, w1, x1, x2, x3⟩
            · exact yn_neg2 htt (by omega) (j3.symm.trans x3)
            · have := (nI_eq (by omega) (by omega)).mp (j3.symm.trans x3)
              omega)]
          have hb : zs_i (zs_wi (zs_wi (zs_wi τ5 1 16 0) 1 16 (nI 1)) 57 0 (-1 - nI tt)) (q + 13) k = zs_i τ (q + 13) k := by rw [k6i _ _ (by omega) (by omega), x11 _ _ (by omega) (by omega), k4i _ _ (by omega) (by omega) (by omega)]
          by_cases hss : s7 = s
          · exact ((l2 hss).2.2.1 k).trans hb
          · exact ((l3 (by omega)).1 k hk (fun e => yn_neg2 htt (by omega) e.symm)).trans hb
        have hst8 : ∀ y, y < 4 → y ≠ tt → zs_i τ8 (q + 9) y = zs_i τ (q + 9) y := by
          intro y hy hyt
          have hne : ¬ -1 - nI tt = -1 - nI y := fun e => hyt (by
            have h1 := (yn_neg tt htt).2
            rw [e, (yn_neg y hy).2] at h1
            exact (nI_eq (by omega) (by omega)).mp h1)
          rw [t6 y hy (fun ⟨j, j1, j2, j3⟩ => by
            rcases hsh j j1 j2 with ⟨-, x3⟩ | ⟨-, x, w, w1, x1, x2, x3⟩
            · exact hne (x3.symm.trans j3)
            · exact yn_neg2 hy (by omega) (x3.symm.trans j3))]
          have hb : zs_i (zs_wi (zs_wi (zs_wi τ5 1 16 0) 1 16 (nI 1)) 57 0 (-1 - nI tt)) (q + 9) y = zs_i τ (q + 9) y := by rw [k6i _ _ (by omega) (by omega), x11 _ _ (by omega) (by omega), k4i _ _ (by omega) (by omega) (by omega)]
          by_cases hss : s7 = s
          · exact ((l2 hss).2.2.2 y).trans hb
          · exact ((l3 (by omega)).2.2.1 y hy hne).trans hb
        have hst9 : zs_i τ8 (q + 9) tt = ent := by
          rcases he2 with ⟨hss, hx⟩ | ⟨hss, hx⟩
          · rw [hx, t5 tt htt ⟨0, Nat.le_refl 0, by have := (l2 hss.symm).1; omega, (l2 hss.symm).2.1.trans (yt_ie _ _ _ _)⟩]
          · rw [hx, t6 tt htt (fun ⟨j, j1, j2, j3⟩ => by
              rcases hsh j j1 j2 with ⟨x3, -⟩ | ⟨-, x, w, w1, x1, x2, x3⟩
              · omega
              · exact yn_neg2 htt (by omega) (x3.symm.trans j3))]
            exact (l3 hss).2.2.2 tt htt rfl
        have hC : ∀ o k, o ≠ 7 → o ≠ 9 → ¬ (o = p ∧ (k = 2 ∨ k = 3)) → ¬ (o = p + 2 ∧ k = tt) → ¬ (o = p + 3 ∧ k = tt) → ¬ (p + 5 + s ≤ o ∧ o < p + 55) → ¬ (o = p + 55 ∧ k = 3) → ¬ (o = p + 57 ∧ c ≤ k) → zs_i (yadv v n i7 (zs_wi σ7 (p + 3) tt ent)) o k = zs_i σ o k := fun o k w1 w2 w3 w4 w5 w6 w7 w8 => by
          unfold yadv
          rw [yt_ir, yt_in _ _ (by omega), yt_in _ _ w5, fS.1 o k (by omega) (by omega) w6 w7 w8, x6 o k (by omega) w2 w4, k3i o k (by omega) (by omega) w4]
        have hCr : ∀ o k, o ≠ 7 → ¬ (p + 5 + s ≤ o ∧ o < p + 55) → ¬ (o = p + 56 ∧ c ≤ k) → zs_r (yadv v n i7 (zs_wi σ7 (p + 3) tt ent)) o k = zs_r σ o k := fun o k w1 w2 w3 => by
          unfold yadv
          rw [yt_rn _ _ (by omega), yt_ri, yt_ri, fS.2.1 o k (by omega) w2 w3, x7 o k w1, k3r o k w1]
        have hCl : ∀ o k, o ≠ 8 → zs_l (yadv v n i7 (zs_wi σ7 (p + 3) tt ent)) o k = zs_l σ o k := fun o k w1 => by
          show zs_l σ7 o k = _
          rw [fS.2.2 o k, x8 o k w1, k3l o k]
        have hTT : ∀ o k, ¬ (o = 1 ∧ 6 ≤ k ∧ k ≤ 16) → o ≠ 57 → ¬ (q + 15 + 3 * tt ≤ o ∧ o ≤ q + 17 + 3 * tt) → ¬ (o = q ∧ (k = 5 ∨ k = 6 ∨ k = 12)) → o ≠ q + 9 → o ≠ q + 13 → ¬ ((o = q + 10 ∨ o = q + 11 ∨ o = q + 12) ∧ s ≤ k) → ¬ (o = q + 14 ∧ e ≤ k) → zs_i τ8 o k = zs_i τ o k := fun o k w1 w2 w3 w4 w5 w6 w7 w8 => by
          rw [t7 o k (by omega) w5 w6, fT.1 o k w1 (by omega) (by omega) w7 w8, k6i o k (by omega) (by omega), x11 o k (by omega) w3, k4i o k (by omega) (by omega) (by omega)]
        have hy9 : ∀ o k, o ≠ 7 → ¬ (o = p + 3 ∧ k = tt) → zs_i (yadv v n i7 (zs_wi σ7 (p + 3) tt ent)) o k = zs_i σ7 o k := fun o k x y => by
          unfold yadv
          rw [yt_ir, yt_in _ _ (by omega), yt_in _ _ y]
        have hr9 : ∀ o k, o ≠ 7 → zs_r (yadv v n i7 (zs_wi σ7 (p + 3) tt ent)) o k = zs_r σ7 o k := fun o k x => by
          unfold yadv
          rw [yt_rn _ _ (by omega), yt_ri, yt_ri]
        have h79 : ∀ k, k ≤ 4 ∨ 8 ≤ k → zs_i (yadv v n i7 (zs_wi σ7 (p + 3) tt ent)) 7 k = zs_i (yadv v n i7 σ7) 7 k := fun k hk => by
          unfold yadv
          simp (disch := omega) only [yt_in, yt_ie, yt_ir, yt_il, yt_ri, yt_rl, yt_rn, yt_re, yt_li, yt_lr, yt_ln, yt_le]
        refine ⟨_, 1, τ8, (ec6 ent he1 y2.2.1).trans e9, by rw [em6, if_neg y01, elead, yq_s], Or.inl ⟨rfl, hc, htt, ?_, ?_, yup B (tt + 1) s7, yup Tt tt T', i7 + 1, s7, a7, c7, e7n, ⟨hB, hp, hq, hF⟩, hP9, ?_, ⟨?_, ?_, v8⟩, ⟨?_, ?_, v9c⟩, ⟨?_, v10b⟩, ⟨?_, v11b⟩, ⟨?_, ?_, ?_⟩, ⟨C', K', kv', kl', ?_⟩, ⟨?_, ?_, by omega⟩, fun x hx => ?_, ⟨?_, yup_e _ _ _, fun t ht => ?_⟩, fun t ht => ?_⟩⟩
        · refine ygC_t gC5 (ygC_t (ygC_S hp fS) ⟨fun o k x y => ⟨hy9 o k (by omega) (by omega), hr9 o k (by omega), rfl⟩, rfl, rfl⟩)
        · exact ygM_t gM6 (ygM_t (ygM_T fT) ⟨fun o k x y z => t7 o k (by omega) (by omega) (by omega), fun o k _ => t8 o k⟩)
        · exact yM_L hM7 (fun k => t7 _ _ (by omega) (by omega) (by omega)) (fun k _ _ => t7 _ _ (by omega) (by omega) (by omega)) (t8 _ _)
        · rw [hy9 _ _ (by omega) (by omega)]
          exact hsz7
        · rw [t7 _ _ (by omega) (by omega) (by omega)]
          exact v7
        · rw [h79 _ (by omega)]
          exact v9
        · rw [t7 _ _ (by omega) (by omega) (by omega)]
          exact v9b
        · rw [hy9 _ _ (by omega) (by omega)]
          exact (ya _ _ (by omega)).symm.trans v10
        · rw [t7 _ _ (by omega) (by omega) (by omega)]
          exact v11
        · rw [hC _ _ (by omega) (by omega) (by omega) (by omega) (by omega) (by omega) (by omega) (by omega)]
          exact hv0
        · rw [hC _ _ (by omega) (by omega) (by omega) (by omega) (by omega) (by omega) (by omega) (by omega)]
          exact hv1
        · rw [h79 _ (by omega)]
          exact hT7.2.2.2.1
        · exact yNS_F hS7 (fun k _ => rfl) (fun k _ => by rw [hy9 _ _ (by omega) (by omega), ya _ _ (by omega)]) (fun o k x y => t7 _ _ (by omega) (by omega) (by omega))
        · rw [hy9 _ _ (by omega) (by omega), fS.1 _ _ (by omega) (by omega) (by omega) (by omega) (by omega), x6 _ _ (by omega) (by omega) (by omega)]
          exact k3p
        · rw [t7 _ _ (by omega) (by omega) (by omega), fT.1 _ _ (by omega) (by omega) (by omega) (by omega) (by omega), k6i _ _ (by omega) (by omega), x11 _ _ (by omega) (by omega)]
          exact k45
        · have hV8 := hS.1
          rw [hC _ _ (by omega) (by omega) (by omega) (by omega) (by omega) (by omega) (by omega) (by omega), hTT _ _ (by omega) (by omega) (by omega) (by omega) (by omega) (by omega) (by omega) (by omega)]
          exact hval x hx
        · rw [yup_n (by omega)]
          exact hB0
        · by_cases htt2 : t = tt
          · rw [htt2, yup_e, yup_n (by omega), hB1]
            exact m2
          · rw [yup_n (by omega), yup_n (by omega)]
            exact hB2 t (by omega)
        · by_cases htt2 : t = tt
          · rw [htt2, yup_e, yup_e, yup_n (by omega), hB1]
            refine ⟨hT7.1, ?_, ?_, ?_, ?_, fun x x1 x2 => ⟨?_, ?_⟩, fun g hE x w x1 x2 w1 vl => ?_⟩
            · rw [hy9 _ _ (by omega) (by omega), fS.1 _ _ (by omega) (by omega) (by omega) (by omega) (by omega)]
              exact x5
            · rw [t7 _ _ (by omega) (by omega) (by omega)]
              exact hT7.2.2.2.2.2.1
            · rw [hst9]
              unfold yadv
              rw [yt_ir, yt_in _ _ (by omega), yt_ie]
            · have : zs_i (yadv v n i7 (zs_wi σ7 (p + 3) tt ent)) (p + 3) tt = ent := by
                unfold yadv
                rw [yt_ir, yt_in _ _ (by omega), yt_ie]
              rw [this]
              rcases he2 with ⟨h1, h2⟩ | ⟨h1, h2⟩
              · exact Or.inl ⟨h1, h2⟩
              · exact Or.inr ⟨h1, h2⟩
            · exact yST_F (hrow x x1 x2).1 (Nat.le_refl _) (Nat.le_refl _) (fun k _ => hy9 _ _ (by omega) (by omega)) (hr9 _ _ (by omega)) (fun k hk => ⟨hr9 _ _ (by omega), hy9 _ _ (by omega) (by omega)⟩) (fun o ho => t7 _ _ (by omega) (by omega) (by omega)) (fun k hk => t7 _ _ (by omega) (by omega) (by omega))
            · obtain ⟨d1, d2, d3, d4⟩ := (hrow x x1 x2).2
              unfold yD2
              rw [hy9 _ 1 (by omega) (by omega), hy9 _ 5 (by omega) (by omega), hy9 _ 6 (by omega) (by omega), hy9 _ 7 (by omega) (by omega)]
              exact ⟨d1, d2, d3, d4⟩
            · have hE7 : yEq σ7 p (-1) (-1) g s s7 := yEq_F (σ' := yadv v n i7 (zs_wi σ7 (p + 3) tt ent)) (fun x x1 x2 => (hrow x x1 x2).2.1) v8 (fun x k x1 x2 _ => hy9 _ _ (by omega) (by omega)) (fun x x1 x2 => hr9 _ _ (by omega)) hE
              obtain ⟨u1, u2⟩ := hfl (by omega) g (-1) hE7
              have vl : yVl (zs_r σ7 (p + 5 + x) 0) w := by
                rw [hr9 _ _ (by omega)] at vl
                exact vl
              have u1' : ∀ j, 0 ≤ j → j < op7 → ∃ x w, w < 3 ∧ s ≤ x ∧ x < s7 ∧ zs_i τ7 57 j = nI (3 * x + w) ∧ g x w = -1 := u1
              by_cases hpd : ∃ j, 0 ≤ j ∧ j < op7 ∧ zs_i τ7 57 j = nI (3 * x + w)
              · rw [t3 (3 * x + w) (by omega) hpd]
                obtain ⟨j, j1, j2, j3⟩ := hpd
                obtain ⟨x', w', z1, z2, z3, z4, z5⟩ := u1' j j1 j2
                obtain ⟨rfl, rfl⟩ := y3 w1 z1 (by omega) (by omega) (j3.symm.trans z4)
                exact z5.symm
              · rw [t4' (3 * x + w) (by omega) hpd]
                rcases u2 x w x1 x2 w1 vl with hh | hh
                · exact absurd hh hpd
                · exact hh
          · rw [yup_n htt2, yup_n (show t ≠ tt + 1 by omega), yup_n (show t + 1 ≠ tt + 1 by omega)]
            refine yTP_F (s := s) (hthr t (by omega)) (yTh_B h00 (by omega)) h8 m3 m4 ?_ ?_ ?_ ?_ (fun x k hx => ?_) (fun x hx => ?_) (fun k hk => ⟨?_, ?_⟩) (fun o x hx ho => ?_) hto8 (fun k hk => ?_)
            · exact hC _ _ (by omega) (by omega) (by omega) (by omega) (by omega) (by omega) (by omega) (by omega)
            · exact hC _ _ (by omega) (by omega) (by omega) (by omega) (by omega) (by omega) (by omega) (by omega)
            · exact hTT _ _ (by omega) (by omega) (by omega) (by omega) (by omega) (by omega) (by omega) (by omega)
            · exact hst8 t (by omega) htt2
            · exact hC _ _ (by omega) (by omega) (by omega) (by omega) (by omega) (by omega) (by omega) (by omega)
            · exact hCr _ _ (by omega) (by omega) (by omega)
            · exact hCr _ _ (by omega) (by omega) (by omega)
            · exact hC _ _ (by omega) (by omega) (by omega) (by omega) (by omega) (by omega) (by omega) (by omega)
            · exact hTT _ _ (by omega) (by omega) (by omega) (by omega) (by omega) (by omega) (by omega) (by omega)
            · exact hTT _ _ (by omega) (by omega) (by omega) (by omega) (by omega) (by omega) (by omega) (by omega)
  · -- no brace
    obtain ⟨e3, -⟩ := yy_nexp (F := F) hB hP2 hbr (show 1019 < 1200 by decide)
    obtain ⟨g0, g1⟩ := yKF_fl (F := F) hB hp hP2 hM1
    have e5 : zf_M_take F 1317 τ1 = some (0, zs_wi τ1 1 11 (nI (yx_ps v n (i + 1)))) := by
      unfold zf_M_take
      rw [yi_1317 hM1.1, if_neg (show ¬ (yx_tk v n (yx_ps v n (i + 1))).1 = 1019 from hbr), yq_c, if_pos y00, ym_bad hM1, yq_c, yz_0, yq_g]
    obtain ⟨q1, q2, f, q3, q4, q5⟩ := yKF_t gC2 (ygM_L f1) g1
    obtain ⟨σ4, j1, j2, j3⟩ := yk_72 (F := F) (t := tt) (N := F) (x2 := nI 0) q4 hp (by omega) htt (by omega)
    refine ⟨σ4, 0, _, (ec0 _ e3).trans j1, ?_, Or.inr ⟨rfl, ygC_t q1 j3, q2, f, q3, j2, q5⟩⟩
    rw [em0, e5, yq_c, if_pos y00]
end YTI
