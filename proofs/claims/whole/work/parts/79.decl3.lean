/-! declarations: variables, the loop -/
section YDC
variable {F n m p q t V L T : Nat} {v : Nat → Nat}
/-- the first value has been kept, both sides; then the semicolon -/
theorem yDc_val {i : Nat} {x : Int32} {σ τ : zs_S} (h : yDc F v n m p q (V + 1) L V i σ τ) (hV : V < 8) (hx : yb8 x) (hτ : zs_i τ (q + 8) V = x) : yDc F v n m p q (V + 1) L (V + 1) i (zs_wi σ (p + 1) V x) τ ∧ ygC p σ (zs_wi σ (p + 1) V x) := by
  obtain ⟨⟨hB, hp, hq, hF⟩, ⟨b1, b2, b3, b4, b5, b6, b7⟩, hM, ⟨s1, s2, s3, s4, s5, s6, s7⟩, ⟨g1, g2, g3, g4⟩, ⟨C, K, kv, kl, hS⟩, hv⟩ := h
  have hp2 := yPP_b hp
  have hq2 := yQQ_b hq
  refine ⟨⟨⟨hB, hp, hq, hF⟩, ⟨b1, b2, by rw [yt_in _ _ (by omega)]; exact b3, by rw [yt_in _ _ (by omega)]; exact b4, b5, b6, yx_rowsF b7 (fun k => rfl) (fun k => yt_in _ _ (by omega)) (fun k => rfl)⟩, hM, ⟨(yt_in _ _ (by omega)).trans s1, (yt_in _ _ (by omega)).trans s2, (yt_in _ _ (by omega)).trans s3, (yt_in _ _ (by omega)).trans s4, s5, s6, s7⟩, ⟨(yt_in _ _ (by omega)).trans g1, g2, (yt_in _ _ (by omega)).trans g3, (yt_in _ _ (by omega)).trans g4⟩, ⟨C, K, kv, kl, yNS_F hS (fun k _ => rfl) (fun k _ => yt_in _ _ (by omega)) (fun o k _ _ => rfl)⟩, fun y hy => ?_⟩, ⟨fun o k x y => ⟨yt_in _ _ (by omega), rfl, rfl⟩, rfl, rfl⟩⟩
  by_cases hyV : y = V
  · rw [hyV, yt_ie, hτ]
    exact ⟨rfl, hx⟩
  · rw [yt_in _ _ (by omega)]
    exact hv y (by omega)
/-- the first value -/
theorem yDc_fv {i : Nat} {σ τ : zs_S} (h : yDc F v n m p q (V + 1) L V i σ τ) (hV : V < 8) (h0 : zs_i τ (q + 8) V = 0) : ∃ x σ2, zf_Parser_readFirstValue F σ = some (x, σ2) ∧ ((∃ r τ', zf_M_declare_154 F 1 (q + 1) τ = some (r, τ') ∧ r = 0 ∧ yKF p q σ τ σ2 τ') ∨ (∃ i' τ2, i ≤ i' ∧ zf_M_declare_154 F 1 (q + 1) τ = zf_M_declare_233 F τ2 ∧ yDc F v n m p q (V + 1) L V i' σ2 τ2 ∧ zs_i τ2 (q + 8) V = x ∧ yb8 x ∧ ygC p σ σ2 ∧ ygM q τ τ2)) := by
  have hh := h
  obtain ⟨⟨hB, hp, hq, hF⟩, hP, hM, -⟩ := h
  have hp2 := yPP_b hp
  have hq2 := yQQ_b hq
  have hA := hM.1
  have ht := yB_t hB i
  by_cases hc : yx_c v n i = 1024
  · have hi := yB_lt hB hP.2.2.2.2.2.1 (by omega) (by omega)
    obtain ⟨τ1, e1, e2, h1, f1, f2, f3⟩ := yDc_st hh hi
    have hP1 := h1.2.1
    have hM1 := h1.2.2.1
    have ht1 := yB_t hB (i + 1)
    -- the number's token, at k
    have num : ∀ k (σ3 τ3 : zs_S) (neg : Int32), yDc F v n m p q (V + 1) L V k σ3 τ3 → i ≤ k → ygC p σ σ3 → ygM q τ τ3 → zs_i τ3 (q + 8) V = 0 → zf_Parser_readFirstValue F σ = zf_Parser_readFirstValue_40 F neg σ3 → zf_M_declare_154 F 1 (q + 1) τ = zf_M_declare_186 F (q + 1) neg τ3 → ∃ x σ2, zf_Parser_readFirstValue F σ = some (x, σ2) ∧ ((∃ r τ', zf_M_declare_154 F 1 (q + 1) τ = some (r, τ') ∧ r = 0 ∧ yKF p q σ τ σ2 τ') ∨ (∃ i' τ2, i ≤ i' ∧ zf_M_declare_154 F 1 (q + 1) τ = zf_M_declare_233 F τ2 ∧ yDc F v n m p q (V + 1) L V i' σ2 τ2 ∧ zs_i τ2 (q + 8) V = x ∧ yb8 x ∧ ygC p σ σ2 ∧ ygM q τ τ2)) := by
      intro k σ3 τ3 neg h3 hik gC gM hz ec em
      obtain ⟨-, hP3, hM3, -⟩ := id h3
      have hm := yB_m hB
      have htk := yB_t hB k
      have hk : k ≤ m := hP3.2.2.2.2.2.1
      have hkd : zs_i τ3 1 7 = yx_kd (yx_c v n k) := hM3.1.2.1.2.2.2.1
      have e40 : ∀ σ4, zf_Parser_expect F 1003 σ3 = some σ4 → zf_Parser_readFirstValue F σ = some (if neg = 0 then (zs_l σ3 6 k).toInt32 else -(zs_l σ3 6 k).toInt32, σ4) := by
        intro σ4 h4
        rw [ec]
        unfold zf_Parser_readFirstValue_40 zf_Parser_readFirstValue_71
        rw [hP3.1, zq_qr (by decide), ys_k3, yq_g, ys_r2, zq_qr (by decide), ys_k6, yq_g, ys_z6, hP3.2.2.2.1, yn_b (show k < 1601 by omega) (by decide), yq_g, nI_clamp (by omega), yq_v, h4, yq_s]
        by_cases hn : neg = 0
        · rw [if_pos hn, if_pos hn]
        · rw [if_neg hn, if_neg hn]
      by_cases hck : yx_c v n k = 1003
      · have hk2 := yB_lt hB hk (by omega) (by omega)
        have h127 := yx_1003 hB.2.1 (show (yx_tk v n (yx_ps v n k)).1 = 1003 from hck)
        have hl : zs_l σ3 6 k = lN (yx_tk v n (yx_ps v n k)).2.2 := (hP3.2.2.2.2.2.2 k (by omega)).2.2 (Or.inr hck)
        have hnum : zs_i τ3 1 10 = nI (yx_tk v n (yx_ps v n k)).2.2 := hM3.1.2.1.2.2.2.2 hck
        generalize hkk : (yx_tk v n (yx_ps v n k)).2.2 = w at *
        have hW : zs_i τ3 (q + 1) 2 = nI (V + 1) := by
          obtain ⟨-, -, -, -, -, ⟨C, K, kv, kl, hS⟩, -⟩ := h3
          exact hS.2.2.1
        have h3w : ∀ x, yDc F v n m p q (V + 1) L V k σ3 (zs_wi τ3 (q + 8) V x) := by
          intro x
          obtain ⟨a1, a2, a3, ⟨s1, s2, s3, s4, s5, s6, s7⟩, ⟨g1, g2, g3, g4⟩, ⟨C, K, kv, kl, hS⟩, hv⟩ := h3
          refine ⟨a1, a2, yM_L a3 (fun k => yt_in _ _ (by omega)) (fun k _ _ => yt_in _ _ (by omega)) rfl, ⟨s1, s2, s3, s4, (yt_in _ _ (by omega)).trans s5, (yt_in _ _ (by omega)).trans s6, (yt_in _ _ (by omega)).trans s7⟩, ⟨g1, (yt_in _ _ (by omega)).trans g2, g3, g4⟩, ⟨C, K, kv, kl, yNS_F hS (fun k _ => rfl) (fun k _ => rfl) (fun o k _ _ => yt_in _ _ (by omega))⟩, fun y hy => ?_⟩
          rw [yt_in _ _ (by omega)]
          exact hv y hy
        obtain ⟨τ4, d1, d2, d3, d4, d5, d6⟩ := yDc_st (h3w (if neg = 0 then nI w else -nI w)) hk2
        have e5 : zf_Parser_expect F 1003 σ3 = some (yadv v n k σ3) := (yy_exp hB hP3 hck (by decide) (by decide)).1
        refine ⟨_, _, e40 _ e5, Or.inr ⟨k + 1, τ4, by omega, ?_, d3, ?_, ?_, ygC_t gC d4, ygM_t gM (ygM_t ⟨fun o b x y z => yt_in _ _ (by omega), fun o b _ => rfl⟩ d5)⟩⟩
        · rw [em]
          unfold zf_M_declare_186 zf_M_declare_228
          rw [hkd, hck, if_pos (by decide), hM3.2.2.1, zq_qr (by omega), yv_k hq, yq_g, yv_r3 hq, zq_qr (by omega), yv_k1 hq, yq_g, hW, nI_pred, yv_k8 hq, yq_g, yv_z8 hq, yn_b hV (by decide), yq_g, nI_clamp (by omega), hnum, yq_g, yq_v, yq_g, yq_v]
          by_cases hn : neg = 0
          · rw [if_pos hn]
            rw [if_pos hn] at d2
            rw [d2, yq_s]
          · rw [if_neg hn]
            rw [if_neg hn] at d2
            rw [d2, yq_s]
        · rw [d6.1 _ _ (by omega), yt_ie, hl, lN_i]
        · rw [hl, lN_i]
          by_cases hn : neg = 0
          · rw [if_pos hn]
            exact (yb8_n w h127).1
          · rw [if_neg hn]
            exact (yb8_n w h127).2
      · have e5 := (yy_nexp (F := F) hB hP3 hck (show 1003 < 1200 by decide)).1
        refine ⟨_, _, e40 _ e5, Or.inl ⟨0, zs_wi τ3 1 11 (nI (yx_ps v n k)), ?_, rfl, yKF_t gC gM (yKF_fl (F := F) hB hp hP3 hM3).2⟩⟩
        have hk2 : ¬ yx_kd (yx_c v n k) = 2 := by
          unfold yx_kd
          rw [if_neg hck]
          repeat' split
          all_goals decide
        rw [em]
        unfold zf_M_declare_186
        rw [hkd, if_neg hk2, ym_bad hM3, yq_c, yz_0, yq_g]
    have hz1 : zs_i τ1 (q + 8) V = 0 := (f3.1 _ _ (by omega)).trans h0
    by_cases hmn : yx_c v n (i + 1) = 1035
    · have hi1 := yB_lt hB hP1.2.2.2.2.2.1 (by omega) (by omega)
      obtain ⟨τ2, e3, e4, h2, g1, g2, g3⟩ := yDc_st h1 hi1
      refine num (i + 1 + 1) _ τ2 1 h2 (by omega) (ygC_t f1 g1) (ygM_t f2 g2) ((g3.1 _ _ (by omega)).trans hz1) ?_ ?_
      · unfold zf_Parser_readFirstValue zf_Parser_readFirstValue_31
        rw [hP.2.2.2.2.1, zq_qr (by omega), yn_12 (by omega), yq_g, if_pos hc, e1, yq_s, hP1.2.2.2.2.1, zq_qr (by omega), yn_12 (by omega), yq_g, if_pos hmn, if_neg y01, e3, yq_s]
      · unfold zf_M_declare_154
        rw [if_neg y01, yi_1314 hA, yq_c, if_pos (show (yx_tk v n (yx_ps v n i)).1 = 1024 from hc), if_neg y01, e2, yq_s, yi_1315 hM1.1, yq_c, if_pos (show (yx_tk v n (yx_ps v n (i + 1))).1 = 1035 from hmn), if_neg y01, e4, yq_s]
    · refine num (i + 1) _ τ1 0 h1 (by omega) f1 f2 hz1 ?_ ?_
      · unfold zf_Parser_readFirstValue zf_Parser_readFirstValue_31
        rw [hP.2.2.2.2.1, zq_qr (by omega), yn_12 (by omega), yq_g, if_pos hc, e1, yq_s, hP1.2.2.2.2.1, zq_qr (by omega), yn_12 (by omega), yq_g, if_neg hmn, if_pos y00]
      · unfold zf_M_declare_154
        rw [if_neg y01, yi_1314 hA, yq_c, if_pos (show (yx_tk v n (yx_ps v n i)).1 = 1024 from hc), if_neg y01, e2, yq_s, yi_1315 hM1.1, yq_c, if_neg (show ¬ (yx_tk v n (yx_ps v n (i + 1))).1 = 1035 from hmn), if_pos y00]
  · refine ⟨0, σ, ?_, Or.inr ⟨i, τ, Nat.le_refl i, ?_, hh, h0, (yb8_n 0 (by decide)).1, ygC_r σ, ygM_r τ⟩⟩
    · unfold zf_Parser_readFirstValue
      rw [hP.2.2.2.2.1, zq_qr (by omega), yn_12 (by omega), yq_g, if_neg hc]
    · unfold zf_M_declare_154
      rw [if_neg y01, yi_1314 hA, yq_c, if_neg (show ¬ (yx_tk v n (yx_ps v n i)).1 = 1024 from hc), if_pos y00]
/-- a variable -/
theorem yDc_var {i : Nat} {σ τ : zs_S} (h : yDc F v n m p q V L V i σ τ) (hc : yx_c v n i = 1005) : ∃ σ' r τ', zf_Parser_readVariable F σ = some σ' ∧ zf_M_declare F 1 τ = some (r, τ') ∧ ((r = 1 ∧ ygC p σ σ' ∧ ygM q τ τ' ∧ ∃ i', i < i' ∧ yDc F v n m p q (V + 1) L (V + 1) i' σ' τ') ∨ (r = 0 ∧ yKF p q σ τ σ' τ')) := by
  have h0 := h
  obtain ⟨⟨hB, hp, hq, hF⟩, hP, hM, ⟨s1, s2, -⟩, -⟩ := h
  have hp2 := yPP_b hp
  have hq2 := yQQ_b hq
  have ht := yB_t hB i
  have hi := yB_lt hB hP.2.2.2.2.2.1 (by omega) (by omega)
  obtain ⟨τ1, e1, e2, h1, f1, f2, f3⟩ := yDc_st h0 hi
  have h1' := h1
  obtain ⟨-, hP1, hM1, -, ⟨-, -, -, g4⟩, ⟨C, K, kv, kl, hS⟩, -⟩ := h1'
  have hL4 : L ≤ 4 := hS.2.1
  have hV8 : V ≤ 8 := hS.1
  have hW : zs_i τ1 (q + 1) 2 = nI V := hS.2.2.1
  have ec : zf_Parser_readVariable F σ = zf_Parser_readVariable_24 F (nI V) (if V < 8 then 1 else 0) (yadv v n i σ) := by
    unfold zf_Parser_readVariable
    rw [hP.2.1, zq_qr (by omega), yp_k hp, yq_g, s1, yq_v, e1, yq_s, yn_8]
    by_cases h4 : V < 8
    · rw [if_pos h4, if_neg (nI_ge h4 (by omega))]
    · rw [if_neg h4, if_pos (nI_le (by omega) (by omega))]
  have em : zf_M_declare F 1 τ = zf_M_declare_21 F 1 (q + 1) τ := by
    unfold zf_M_declare
    rw [if_neg y01, hM.2.2.1, zq_qr (by omega), yv_k hq, yq_g, yv_r0 hq, zq_qr (by omega)]
  have hbad : (yx_c v n (i + 1) ≠ 1002 ∨ V = 8 ∨ (∃ r, zf_Parser_find F 0 (yadv v n i σ) = some (r, yadv v n i σ) ∧ ¬ r < 0)) → zf_M_declare_21 F 1 (q + 1) τ = some (0, zs_wi τ1 1 11 (nI (yx_ps v n (i + 1)))) → ∃ σ' r τ', zf_Parser_readVariable F σ = some σ' ∧ zf_M_declare F 1 τ = some (r, τ') ∧ ((r = 1 ∧ ygC p σ σ' ∧ ygM q τ τ' ∧ ∃ i', i < i' ∧ yDc F v n m p q (V + 1) L (V + 1) i' σ' τ') ∨ (r = 0 ∧ yKF p q σ τ σ' τ')) := by
    intro hb hm
    refine ⟨yfl v n (i + 1) (yadv v n i σ), 0, _, ?_, em.trans hm, Or.inr ⟨rfl, yKF_t f1 f2 (yKF_fl (F := F) hB hp hP1 hM1).2⟩⟩
    rw [ec]
    unfold zf_Parser_readVariable_24 zf_Parser_readVariable_65
    rw [yy_dkn hB hP1 (by
      rcases hb with hb | hb | hb
      · exact Or.inl hb
      · exact Or.inr (Or.inl (if_neg (by omega)))
      · exact Or.inr (Or.inr hb)), yq_c, if_pos y00]
  by_cases hn : yx_c v n (i + 1) = 1002
  · obtain ⟨r, r1, r2, q1, q2, q3, q4⟩ := yy_lookd (F := F) (by omega) hB hq hM1.1.1 hP1 hn hS g4
    obtain ⟨d1, d2⟩ := ym_dec (x1 := 1) h1 e2 (yv_nv hq) (by omega) hW hV8 (fun _ => ⟨q2, q3⟩)
    rcases q4 with ⟨q5, q6⟩ | ⟨q5, q6, q7, q8⟩
    · exact hbad (Or.inr (Or.inr ⟨r, q1, q5⟩)) (d1 (Or.inr (Or.inr q6)))
    · by_cases h8 : V < 8
      · obtain ⟨τ2, k1, k2, k3, k4, k5, k6, k7⟩ := yDc_nm (W := V) (o := q + 1) (cell := nI V) h1 hn (Or.inl rfl)
        obtain ⟨c1, c2⟩ := yy_dk (F := F) (cell := nI V) hB hP1 hn g4 (by omega) q1 q5
        obtain ⟨x8, x9, x72⟩ := ydk_8 (v := v) (n := n) (j := i + 1) (B := V + L) (cell := nI V) (σ := yadv v n i σ)
        have k6' := k6 (V + L)
        have k7' := k7 (V + L)
        generalize hσ2 : yadv v n (i + 1) (ydk v n (i + 1) (V + L) (nI V) (yadv v n i σ)) = σ2 at *
        obtain ⟨-, -, -, ⟨u1, u2, u3, u4, u5, u6, u7⟩, ⟨w1, w2, w3, -⟩, -, hv⟩ := h1
        have hD : yDc F v n m p q (V + 1) L V (i + 1 + 1) (zs_wi σ2 p 0 (nI (V + 1))) (zs_wi τ2 (q + 8) V 0) := by
          have hPw : yP v n m p (i + 1 + 1) (zs_wi σ2 p 0 (nI (V + 1))) := by
            obtain ⟨b1, b2, b3, b4, b5, b6, b7⟩ := c2
            exact ⟨b1, b2, by rw [yt_in _ _ (by omega)]; exact b3, by rw [yt_in _ _ (by omega)]; exact b4, b5, b6, yx_rowsF b7 (fun k => rfl) (fun k => yt_in _ _ (by omega)) (fun k => rfl)⟩
          have hti : ∀ a b, ¬ (a = 1 ∧ 6 ≤ b ∧ b ≤ 10) → ¬ (q + 1 ≤ a ∧ a ≤ q + 3) → ¬ (a = q + 8 ∧ b = V) → zs_i (zs_wi τ2 (q + 8) V 0) a b = zs_i τ1 a b := fun a b x y z => by rw [yt_in _ _ z, k3 a b x, yad_i _ _ (by omega)]
          have hci : ∀ a b, ¬ (a = 7 ∧ (b = 2 ∨ 5 ≤ b)) → a ≠ 9 → ¬ (a = p ∧ b = 0) → zs_i (zs_wi σ2 p 0 (nI (V + 1))) a b = zs_i (yadv v n i σ) a b := fun a b x y z => by rw [yt_in _ _ z, k7' a b x y]
          refine ⟨⟨hB, hp, hq, hF⟩, hPw, yM_L k2 (fun k => yt_in _ _ (by omega)) (fun k _ _ => yt_in _ _ (by omega)) rfl, ⟨yt_ie _ _ _ _, (hci _ _ (by omega) (by omega) (by omega)).trans u2, (hci _ _ (by omega) (by omega) (by omega)).trans u3, (hci _ _ (by omega) (by omega) (by omega)).trans u4, (hti _ _ (by omega) (by omega) (by omega)).trans u5, (hti _ _ (by omega) (by omega) (by omega)).trans u6, (hti _ _ (by omega) (by omega) (by omega)).trans u7⟩, ⟨?_, (hti _ _ (by omega) (by omega) (by omega)).trans w2, (hci _ _ (by omega) (by omega) (by omega)).trans w3, ?_⟩, ⟨_, _, _, _, yNS_F (yNS_v (σ' := zs_wi σ2 p 0 (nI (V + 1))) hB hq hM1.1.1 hn h8 hS q8 ⟨x8.1, x8.2⟩ ⟨(yt_in _ _ (by omega)).trans x9.1, fun k hk => (yt_in _ _ (by omega)).trans (x9.2 k hk)⟩) (fun k _ => rfl) (fun k _ => rfl) (fun a b x y => (yt_in _ _ (by omega)).trans (k3 a b (by omega)))⟩, fun x hx => ⟨?_, ?_⟩⟩
          · rw [yt_in _ _ (by omega), ← hσ2]
            unfold yadv ydk
            simp (disch := omega) only [yt_in, yt_ie, yt_ir, yt_il, yt_ri, yt_rl, yt_rn, yt_re, yt_li, yt_lr, yt_ln, yt_le]
            have := w1
            unfold yadv at this
            simp (disch := omega) only [yt_in, yt_ie, yt_ir, yt_il, yt_ri, yt_rl, yt_rn, yt_re, yt_li, yt_lr, yt_ln, yt_le] at this
            exact this
          · rw [yt_in _ _ (by omega), x72, show V + 1 + L = V + L + 1 by omega]
          · rw [hci _ _ (by omega) (by omega) (by omega), hti _ _ (by omega) (by omega) (by omega)]
            exact (hv x hx).1
          · rw [hti _ _ (by omega) (by omega) (by omega)]
            exact (hv x hx).2
        have gC : ygC p σ (zs_wi σ2 p 0 (nI (V + 1))) := ygC_t f1 (ygC_t k6' ⟨fun o k x y => ⟨yt_in _ _ (by omega), rfl, rfl⟩, rfl, rfl⟩)
        have gM : ygM q τ (zs_wi τ2 (q + 8) V 0) := ygM_t f2 (ygM_t k5 ⟨fun o b x y z => yt_in _ _ (by omega), fun o b _ => rfl⟩)
        have hsz : zs_i σ2 p 0 = nI V := (k7' _ _ (by omega) (by omega)).trans u1
        obtain ⟨x, σ4, y1, hy⟩ := yDc_fv hD h8 (yt_ie _ _ _ _)
        have hmany : zs_i τ2 (q + 1) 2 = nI (V + 1) := by rw [k3 _ _ (by omega), yad_m]
        have em2 : zf_M_declare F 1 τ = zf_M_declare_154 F 1 (q + 1) (zs_wi τ2 (q + 8) V 0) := by
          rw [em, d2 hn h8 q6 q7, k1, yq_s, if_neg y01, k4, hM1.2.2.1, zq_qr (by omega), yv_k hq, yq_g, yv_r3 hq, zq_qr (by omega), yv_k8 hq, yq_g, hmany, nI_pred, yv_z8 hq, yn_b h8 (by decide), yq_g, nI_clamp (by omega), yq_v]
        have ec2 : zf_Parser_readVariable F σ = zf_Parser_expect F 1023 (zs_wi σ4 (p + 1) V x) := by
          rw [ec, if_pos h8]
          unfold zf_Parser_readVariable_24 zf_Parser_readVariable_65
          rw [c1, yq_c, if_neg y01, c2.2.1, zq_qr (by omega), yp_k hp, yq_g, hsz, nI_1, yq_v, yt_ri, c2.2.1, zq_qr (by omega), yp_k hp, yq_g, yp_r4 hp, zq_qr (by omega), y1, yq_c, yp_k1 hp, yq_g, yp_z1 hp, yn_b h8 (by decide), yq_g, nI_clamp (by omega), yq_v, yq_d]
        rcases hy with ⟨r', τ', z1, z2, z3⟩ | ⟨i', τ3, z0, z1, z2, z3, z4, z5, z6⟩
        · obtain ⟨z4, z5, f, z6, z7, z8⟩ := z3
          have hk5 : yK p (nI f) (zs_wi σ4 (p + 1) V x) := yK_F z7 (fun k => yt_in _ _ (by omega)) (fun k => rfl)
          refine ⟨zs_wi σ4 (p + 1) V x, r', τ', ec2.trans (yy_kexp hk5 (by decide) (by decide)), em2.trans z1, Or.inr ⟨z2, ygC_t gC (ygC_t z4 ⟨fun o k x y => ⟨yt_in _ _ (by omega), rfl, rfl⟩, rfl, rfl⟩), ygM_t gM z5, f, z6, hk5, z8⟩⟩
        · obtain ⟨w5, w6⟩ := yDc_val z2 h8 z4 z3
          rcases yDc_ex w5 (yi_1316 w5.2.2.1.1) (by decide) (by decide) (by decide) with ⟨-, -, τ4, o1, o2, o3, o4, o5⟩ | ⟨-, o1, o2, o3⟩
          · refine ⟨_, 1, τ4, ec2.trans o1, ?_, Or.inl ⟨rfl, ygC_t gC (ygC_t z5 (ygC_t w6 o4)), ygM_t gM (ygM_t z6 o5), i' + 1, by omega, o3⟩⟩
            rw [em2, z1]
            unfold zf_M_declare_233
            rw [o2, yq_c, yz_1, yq_g]
          · refine ⟨_, 0, _, ec2.trans o1, ?_, Or.inr ⟨rfl, yKF_t (ygC_t gC (ygC_t z5 w6)) (ygM_t gM z6) o3⟩⟩
            rw [em2, z1]
            unfold zf_M_declare_233
            rw [o2, yq_c, yz_0, yq_g]
      · exact hbad (Or.inr (Or.inl (by omega))) (d1 (Or.inr (Or.inl (by omega))))
  · obtain ⟨d1, -⟩ := ym_dec (r1 := 0) (r2 := 0) (x1 := 1) h1 e2 (yv_nv hq) (by omega) hW hV8 (fun hh => absurd hh hn)
    exact hbad (Or.inl hn) (d1 (Or.inl hn))
/-- the class's loop comes to its end -/
theorem yy_dend {σ : zs_S} {g : Nat} (hg : zs_r σ 7 6 = g) (h0 : g ≠ 0) (h1 : g < 1200) (h5 : g ≠ 1005) (h6 : g ≠ 1006) : ∀ d x N, 13 - x ≤ d → x ≤ 13 → d < N → zf_Parser_readDeclarations_7 F N (nI x) σ = some (zs_wi σ 7 3 (zs_i σ 7 2)) := by
  intro d
  induction d with
  | zero =>
    intro x N a1 a2 a3
    obtain ⟨N, rfl⟩ : ∃ q, N = q + 1 := ⟨N - 1, by omega⟩
    rw [zf_Parser_readDeclarations_7, show (12 : Int32) = nI 12 from rfl, if_pos (nI_lt (by omega) (by omega)), yq_v]
  | succ d ih =>
    intro x N a1 a2 a3
    obtain ⟨N, rfl⟩ : ∃ q, N = q + 1 := ⟨N - 1, by omega⟩
    rw [zf_Parser_readDeclarations_7, show (12 : Int32) = nI 12 from rfl]
    by_cases hx : x = 13
    · rw [if_pos (nI_lt (by omega) (by omega)), yq_v]
    · rw [if_neg (nI_nlt (by omega) (by omega)), hg, zq_qr h0, yn_12 h1, yq_g, if_neg h5, zq_qr h0, if_neg h6]
      unfold zf_Parser_readDeclarations_44
      rw [yn_12 h1, yq_g, nI_1, yq_v]
      exact ih (x + 1) N (by omega) (by omega) (by omega)
theorem yDc_loop {σ0 τ0 : zs_S} : ∀ d x N M V L i σ τ, 13 - x ≤ d → V + L = x → d + 20 < N → d + 20 < M → yDc F v n m p q V L V i σ τ → ygC p σ0 σ → ygM q τ0 τ → ∃ σ', zf_Parser_readDeclarations_7 F N (nI x) σ = some σ' ∧ ((∃ τ', zf_M_read_91 F M τ = some (0, τ') ∧ yKF p q σ0 τ0 σ' τ') ∨ (∃ V' L' i' σ1 τ1, σ' = zs_wi σ1 7 3 (nI (V' + L')) ∧ zf_M_read_91 F M τ = zf_M_read_124 F F τ1 ∧ yDc F v n m p q V' L' V' i' σ1 τ1 ∧ ygC p σ0 σ1 ∧ ygM q τ0 τ1)) := by
  intro d
  induction d with
  | zero =>
    intro x N M V L i σ τ a1 a2 a3 a4 h gC gM
    obtain ⟨-, -, -, -, -, ⟨C, K, kv, kl, hS⟩, -⟩ := h
    have := hS.1
    have := hS.2.1
    omega
  | succ d ih =>
    intro x N M V L i σ τ a1 a2 a3 a4 h gC gM
    have hh := h
    obtain ⟨⟨hB, hp, hq, hF⟩, hP, hM, -, ⟨-, -, -, g4⟩, ⟨C, K, kv, kl, hS⟩, -⟩ := h
    have hV8 := hS.1
    have hL4 := hS.2.1
    have hp2 := yPP_b hp
    have hA := hM.1
    have ht := yB_t hB i
    have hk := hP.2.2.2.2.1
    obtain ⟨N, rfl⟩ : ∃ q, N = q + 1 := ⟨N - 1, by omega⟩
    obtain ⟨M, rfl⟩ : ∃ q, M = q + 1 := ⟨M - 1, by omega⟩
    have fin : ∀ σ' f, yK p f σ' → ygC p σ0 σ' → zf_Parser_readDeclarations_7 F N (nI (x + 1)) σ' = some (zs_wi σ' 7 3 (zs_i σ' 7 2)) ∧ yK p f (zs_wi σ' 7 3 (zs_i σ' 7 2)) ∧ ygC p σ0 (zs_wi σ' 7 3 (zs_i σ' 7 2)) := fun σ' f hk2 hg => ⟨yy_dend hk2.2.2.2.2 (by decide) (by decide) (by decide) (by decide) 13 (x + 1) N (by omega) (by omega) (by omega), ⟨hk2.1, hk2.2.1, (yt_in _ _ (by omega)).trans hk2.2.2.1, hk2.2.2.2⟩, ygC_t hg ⟨fun o k x y => ⟨yt_in _ _ (by omega), rfl, rfl⟩, rfl, rfl⟩⟩
    by_cases h5 : yx_c v n i = 1005
    · obtain ⟨σ', r, τ', e1, e2, hx⟩ := yDc_var hh h5
      have ec : zf_Parser_readDeclarations_7 F (N + 1) (nI x) σ = zf_Parser_readDeclarations_7 F N (nI (x + 1)) σ' := by
        rw [zf_Parser_readDeclarations_7, show (12 : Int32) = nI 12 from rfl, if_neg (nI_nlt (by omega) (by omega)), hk, zq_qr (by omega), yn_12 (by omega), yq_g, if_pos h5, e1, yq_s]
        unfold zf_Parser_readDeclarations_44
        rw [nI_1, yq_v]
      have em : zf_M_read_91 F (M + 1) τ = if r = 0 then some (0, τ') else zf_M_read_91 F M τ' := by
        rw [zf_M_read_91, yi_1300 hA, yq_c, if_pos (show (yx_tk v n (yx_ps v n i)).1 = 1005 from h5), if_neg y01]
        unfold zf_M_read_109
        rw [yi_1300 hA, yq_c, if_pos (show (yx_tk v n (yx_ps v n i)).1 = 1005 from h5), e2, yq_c]
      rw [ec, em]
      rcases hx with ⟨hr, k1, k2, i', k3, k4⟩ | ⟨hr, k1, k2, f, k3, k4, k5⟩
      · rw [hr, if_neg y01]
        exact ih (x + 1) N M (V + 1) L i' σ' τ' (by omega) (by omega) (by omega) (by omega) k4 (ygC_t gC k1) (ygM_t gM k2)
      · rw [hr, if_pos y00]
        obtain ⟨z1, z2, z3⟩ := fin σ' (nI f) k4 (ygC_t gC k1)
        exact ⟨_, z1, Or.inl ⟨τ', rfl, z3, ygM_t gM k2, f, k3, z2, k5⟩⟩
    · by_cases h6 : yx_c v n i = 1006
      · obtain ⟨σ', r, τ', e1, e2, hx⟩ := yDc_lock hh h6
        have ec : zf_Parser_readDeclarations_7 F (N + 1) (nI x) σ = zf_Parser_readDeclarations_7 F N (nI (x + 1)) σ' := by
          rw [zf_Parser_readDeclarations_7, show (12 : Int32) = nI 12 from rfl, if_neg (nI_nlt (by omega) (by omega)), hk, zq_qr (by omega), yn_12 (by omega), yq_g, if_neg h5, zq_qr (by omega), yn_12 (by omega), yq_g, if_pos h6, e1, yq_s]
          unfold zf_Parser_readDeclarations_44
          rw [nI_1, yq_v]
        have em : zf_M_read_91 F (M + 1) τ = if r = 0 then some (0, τ') else zf_M_read_91 F M τ' := by
          rw [zf_M_read_91, yi_1300 hA, yq_c, if_neg (show ¬ (yx_tk v n (yx_ps v n i)).1 = 1005 from h5), if_pos y00, yi_1301 hA, yq_c, if_pos (show (yx_tk v n (yx_ps v n i)).1 = 1006 from h6), if_neg y01]
          unfold zf_M_read_109
          rw [yi_1300 hA, yq_c, if_neg (show ¬ (yx_tk v n (yx_ps v n i)).1 = 1005 from h5), e2, yq_c]
        rw [ec, em]
        rcases hx with ⟨hr, k1, k2, i', k3, k4⟩ | ⟨hr, k1, k2, f, k3, k4, k5⟩
        · rw [hr, if_neg y01]
          exact ih (x + 1) N M V (L + 1) i' σ' τ' (by omega) (by omega) (by omega) (by omega) k4 (ygC_t gC k1) (ygM_t gM k2)
        · rw [hr, if_pos y00]
          obtain ⟨z1, z2, z3⟩ := fin σ' (nI f) k4 (ygC_t gC k1)
          exact ⟨_, z1, Or.inl ⟨τ', rfl, z3, ygM_t gM k2, f, k3, z2, k5⟩⟩
      · refine ⟨_, yy_dend hk (by omega) (by omega) h5 h6 13 x (N + 1) (by omega) (by omega) (by omega), Or.inr ⟨V, L, i, σ, τ, by rw [g4], ?_, hh, gC, gM⟩⟩
        rw [zf_M_read_91, yi_1300 hA, yq_c, if_neg (show ¬ (yx_tk v n (yx_ps v n i)).1 = 1005 from h5), if_pos y00, yi_1301 hA, yq_c, if_neg (show ¬ (yx_tk v n (yx_ps v n i)).1 = 1006 from h6), if_pos y00]
end YDC
