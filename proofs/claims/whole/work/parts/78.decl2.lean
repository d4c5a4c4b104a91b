/-! declarations: variables and locks -/
section YDB
variable {F n m p q t V L T : Nat} {v : Nat → Nat}
theorem yDc_ex {U i x X : Nat} {σ τ : zs_S} (h : yDc F v n m p q V L U i σ τ) (hX : zf_M_is F X τ = some (if (yx_tk v n (yx_ps v n i)).1 = x then 1 else 0, τ)) (hx : x ≠ 1000) (hx1 : x ≠ 1001) (hx2 : x < 1200) : (yx_c v n i = x ∧ i < m ∧ ∃ τ1, zf_Parser_expect F x σ = some (yadv v n i σ) ∧ zf_M_take F X τ = some (1, τ1) ∧ yDc F v n m p q V L U (i + 1) (yadv v n i σ) τ1 ∧ ygC p σ (yadv v n i σ) ∧ ygM q τ τ1) ∨ (yx_c v n i ≠ x ∧ zf_Parser_expect F x σ = some (yfl v n i σ) ∧ zf_M_take F X τ = some (0, zs_wi τ 1 11 (nI (yx_ps v n i))) ∧ yKF p q σ τ (yfl v n i σ) (zs_wi τ 1 11 (nI (yx_ps v n i)))) := by
  have hB := h.1.1
  have k4 := h.2.1.2.2.2.2.2.1
  by_cases hc : yx_c v n i = x
  · have hi := yB_lt hB k4 (by omega) (by omega)
    obtain ⟨τ1, e1, e2, h1, f1, f2, -⟩ := yDc_st h hi
    refine Or.inl ⟨hc, hi, τ1, (yy_exp hB h.2.1 hc hx hx1).1, ?_, h1, f1, f2⟩
    unfold zf_M_take
    rw [hX, if_pos (show (yx_tk v n (yx_ps v n i)).1 = x from hc), yq_c, if_neg y01, e2, yq_s]
  · have e2 := ym_bad (F := F) h.2.2.1
    refine Or.inr ⟨hc, (yy_nexp hB h.2.1 hc hx2).1, ?_, (yKF_fl hB h.1.2.1 h.2.1 h.2.2.1).2⟩
    unfold zf_M_take
    rw [hX, if_neg (show ¬ (yx_tk v n (yx_ps v n i)).1 = x from hc), yq_c, if_pos y00, e2, yq_c, yz_0, yq_g]
/-- the reference's declare, up to the name -/
theorem ym_dec {U j o R W : Nat} {x1 : Int32} {σ1 τ τ1 : zs_S} (h : yDc F v n m p q V L U j σ1 τ1) (hst : zf_M_step F τ = some τ1) (ho : yNM o R) (hR : R ≤ 8) (hW : zs_i τ1 o 2 = nI W) (hWR : W ≤ R) {r1 r2 : Int32} (hr : yx_c v n j = 1002 → zf_MN_find F (q + 1) 2 (nI (yx_ps v n j)) (nI (yln v n j)) τ1 = some (r1, τ1) ∧ zf_MN_find F (q + 4) 2 (nI (yx_ps v n j)) (nI (yln v n j)) τ1 = some (r2, τ1)) : ((yx_c v n j ≠ 1002 ∨ W = R ∨ (0 ≤ r1 ∨ (¬ 0 ≤ r1 ∧ ¬ r2 < 0))) → zf_M_declare_21 F x1 o τ = some (0, zs_wi τ1 1 11 (nI (yx_ps v n j)))) ∧ (yx_c v n j = 1002 → W < R → ¬ 0 ≤ r1 → r2 < 0 → zf_M_declare_21 F x1 o τ = zq_d (zf_M_step F (yad τ1 o W (yln v n j) (yx_ps v n j))) fun σ33 => if x1 = 0 then zf_M_declare_154 F x1 o σ33 else zq_q (zs_r σ33 1 12) fun q36 => zq_g (zq_k 1 q36 19) <| zq_q (zd_rf 1 q36 3) fun q38 => zq_g (zq_k 1 q38 0) <| zq_g (zq_b ((zs_i σ33 o 2) - 1) (zd_sh 1 q38).2) <| zq_v (zs_wi σ33 q38 (((zs_i σ33 o 2) - 1).toNatClampNeg) 0) fun σ41 => zf_M_declare_154 F x1 o σ41) := by
  obtain ⟨⟨hB, hp, hq, hF⟩, hP, hM, -⟩ := h
  have hq2 := yQQ_b hq
  have e2 := ym_bad (F := F) hM
  have hA := hM.1
  obtain ⟨o1, o2, o3, o4, o5, o6, o7, o8, o9⟩ := ho
  have ho' : yNM o R := ⟨o1, o2, o3, o4, o5, o6, o7, o8, o9⟩
  have d105 : zf_M_declare_105 F τ1 = some (0, zs_wi τ1 1 11 (nI (yx_ps v n j))) := by
    unfold zf_M_declare_105
    rw [e2, yq_c, yz_0, yq_g]
  have hWe : (nI W = nI R) = (W = R) := yn_eq (by omega) (by omega)
  constructor
  · intro hb
    unfold zf_M_declare_21
    rw [hst, yq_s, yy_name hA, yq_c]
    by_cases hc : yx_c v n j = 1002
    · obtain ⟨f1, f2⟩ := hr hc
      obtain ⟨j1, j2⟩ := yM_c hB hM hc
      rw [if_pos (show (yx_tk v n (yx_ps v n j)).1 = 1002 from hc), if_neg y01, o1, yq_g, o3, zq_qr (by omega), o6, yq_g, hW, o7]
      by_cases hWR' : W = R
      · rw [if_pos (hWe.mpr hWR'), d105]
      · rw [if_neg (fun e => hWR' (hWe.mp e)), hM.2.2.1, zq_qr (by omega), yv_k hq, yq_g, yv_r0 hq, zq_qr (by omega), yv_k1 hq, yq_g, j2, j1, f1, yq_c]
        have hb' : 0 ≤ r1 ∨ (¬ 0 ≤ r1 ∧ ¬ r2 < 0) := by
          rcases hb with hb | hb | hb
          · exact absurd hc hb
          · exact absurd hb hWR'
          · exact hb
        rcases hb' with hb' | ⟨hb', hb2⟩
        · rw [if_pos hb', d105]
        · rw [if_neg hb', hM.2.2.1, zq_qr (by omega), yv_k hq, yq_g, yv_r1 hq, zq_qr (by omega), yv_k4 hq, yq_g, j2, j1, f2, yq_c, if_neg hb2, d105]
    · rw [if_neg (show ¬ (yx_tk v n (yx_ps v n j)).1 = 1002 from hc), if_pos y00, d105]
  · intro hc hlt h1 h2
    obtain ⟨f1, f2⟩ := hr hc
    obtain ⟨j1, j2⟩ := yM_c hB hM hc
    obtain ⟨t1, -⟩ := yTN_i hB hc
    unfold zf_M_declare_21
    rw [hst, yq_s, yy_name hA, yq_c, if_pos (show (yx_tk v n (yx_ps v n j)).1 = 1002 from hc), if_neg y01, o1, yq_g, o3, zq_qr (by omega), o6, yq_g, hW, o7, if_neg (fun e => by have := hWe.mp e; omega), hM.2.2.1, zq_qr (by omega), yv_k hq, yq_g, yv_r0 hq, zq_qr (by omega), yv_k1 hq, yq_g, j2, j1, f1, yq_c, if_neg h1, hM.2.2.1, zq_qr (by omega), yv_k hq, yq_g, yv_r1 hq, zq_qr (by omega), yv_k4 hq, yq_g, j2, j1, f2, yq_c, if_pos h2, j2, j1, ym_add ho' hR hA.1 t1 hW hlt, yq_s]
/-- the stores behind a name that has been declared -/
theorem yDc_nm {U j o W : Nat} {cell : Int32} {σ1 τ1 : zs_S} (h : yDc F v n m p q V L U j σ1 τ1) (hc : yx_c v n j = 1002) (ho : o = q + 1 ∨ o = q + 4) : ∃ τ2, zf_M_step F (yad τ1 o W (yln v n j) (yx_ps v n j)) = some τ2 ∧ yM F v n m q (j + 1) τ2 ∧ (∀ a b, ¬ (a = 1 ∧ 6 ≤ b ∧ b ≤ 10) → zs_i τ2 a b = zs_i (yad τ1 o W (yln v n j) (yx_ps v n j)) a b) ∧ (∀ a b, zs_r τ2 a b = zs_r τ1 a b) ∧ ygM q τ1 τ2 ∧ (∀ B, ygC p σ1 (yadv v n j (ydk v n j B cell σ1))) ∧ (∀ B a b, ¬ (a = 7 ∧ (b = 2 ∨ 5 ≤ b)) → a ≠ 9 → zs_i (yadv v n j (ydk v n j B cell σ1)) a b = zs_i σ1 a b) := by
  obtain ⟨⟨hB, hp, hq, hF⟩, hP, hM, -⟩ := h
  have hp2 := yPP_b hp
  have hq2 := yQQ_b hq
  have ht := yB_t hB j
  have hlt := yB_lt hB hP.2.2.2.2.2.1 (by omega) (by omega)
  have hM2 : yM F v n m q j (yad τ1 o W (yln v n j) (yx_ps v n j)) := yM_L hM (fun k => yad_i _ _ (by omega)) (fun k _ _ => yad_i _ _ (by omega)) rfl
  obtain ⟨τ2, k3, k4, k5⟩ := yw_e (ym_step hB hM2 hlt)
  refine ⟨τ2, k3, k4, k5.1, fun a b => (k5.2 a b).trans rfl, ⟨fun a b x y z => by rw [k5.1 a b (by omega), yad_i _ _ (by omega)], fun a b _ => (k5.2 a b).trans rfl⟩, fun B => ?_, fun B a b x y => ?_⟩
  · unfold yadv ydk
    exact ⟨fun o k x y => ⟨by simp (disch := omega) only [yt_in, yt_ie, yt_ir, yt_il, yt_ri, yt_rl, yt_rn, yt_re, yt_li, yt_lr, yt_ln, yt_le], by simp (disch := omega) only [yt_in, yt_ie, yt_ir, yt_il, yt_ri, yt_rl, yt_rn, yt_re, yt_li, yt_lr, yt_ln, yt_le], by simp (disch := omega) only [yt_in, yt_ie, yt_ir, yt_il, yt_ri, yt_rl, yt_rn, yt_re, yt_li, yt_lr, yt_ln, yt_le]⟩, rfl, rfl⟩
  · unfold yadv ydk
    simp (disch := omega) only [yt_in, yt_ie, yt_ir, yt_il, yt_ri, yt_rl, yt_rn, yt_re, yt_li, yt_lr, yt_ln, yt_le]
theorem ydk_8 {j B : Nat} {cell : Int32} {σ : zs_S} : (zs_l (yadv v n j (ydk v n j B cell σ)) 8 B = lN (yky v n j) ∧ ∀ k, k ≠ B → zs_l (yadv v n j (ydk v n j B cell σ)) 8 k = zs_l σ 8 k) ∧ (zs_i (yadv v n j (ydk v n j B cell σ)) 9 B = cell ∧ ∀ k, k ≠ B → zs_i (yadv v n j (ydk v n j B cell σ)) 9 k = zs_i σ 9 k) ∧ zs_i (yadv v n j (ydk v n j B cell σ)) 7 2 = nI (B + 1) := by
  unfold yadv ydk
  refine ⟨⟨?_, fun k hk => ?_⟩, ⟨?_, fun k hk => ?_⟩, ?_⟩
  all_goals simp (disch := omega) only [yt_in, yt_ie, yt_ir, yt_il, yt_ri, yt_rl, yt_rn, yt_re, yt_li, yt_lr, yt_ln, yt_le]
/-- a lock -/
theorem yDc_lock {i : Nat} {σ τ : zs_S} (h : yDc F v n m p q V L V i σ τ) (hc : yx_c v n i = 1006) : ∃ σ' r τ', zf_Parser_readLock F σ = some σ' ∧ zf_M_declare F 0 τ = some (r, τ') ∧ ((r = 1 ∧ ygC p σ σ' ∧ ygM q τ τ' ∧ ∃ i', i < i' ∧ yDc F v n m p q V (L + 1) V i' σ' τ') ∨ (r = 0 ∧ yKF p q σ τ σ' τ')) := by
  have h0 := h
  obtain ⟨⟨hB, hp, hq, hF⟩, hP, hM, ⟨s1, s2, -⟩, -⟩ := h
  have hp2 := yPP_b hp
  have hq2 := yQQ_b hq
  have ht := yB_t hB i
  have hi := yB_lt hB hP.2.2.2.2.2.1 (by omega) (by omega)
  obtain ⟨τ1, e1, e2, h1, f1, f2, f3⟩ := yDc_st h0 hi
  have h1' := h1
  obtain ⟨-, hP1, hM1, ⟨-, s2', -⟩, ⟨-, -, -, g4⟩, ⟨C, K, kv, kl, hS⟩, -⟩ := h1'
  have hL4 : L ≤ 4 := hS.2.1
  have hV8 : V ≤ 8 := hS.1
  have hW : zs_i τ1 (q + 4) 2 = nI L := hS.2.2.2.1
  have ec : zf_Parser_readLock F σ = zf_Parser_readLock_23 F (nI L) (if L < 4 then 1 else 0) (yadv v n i σ) := by
    unfold zf_Parser_readLock
    rw [hP.2.1, zq_qr (by omega), yp_k hp, yq_g, s2, yq_v, e1, yq_s, show (4 : Int32) = nI 4 from rfl]
    by_cases h4 : L < 4
    · rw [if_pos h4, if_neg (nI_ge h4 (by omega))]
    · rw [if_neg h4, if_pos (nI_le (by omega) (by omega))]
  have em : zf_M_declare F 0 τ = zf_M_declare_21 F 0 (q + 4) τ := by
    unfold zf_M_declare
    rw [if_pos y00, hM.2.2.1, zq_qr (by omega), yv_k hq, yq_g, yv_r1 hq, zq_qr (by omega)]
  have hbad : (yx_c v n (i + 1) ≠ 1002 ∨ L = 4 ∨ (∃ r, zf_Parser_find F 0 (yadv v n i σ) = some (r, yadv v n i σ) ∧ ¬ r < 0)) → zf_M_declare_21 F 0 (q + 4) τ = some (0, zs_wi τ1 1 11 (nI (yx_ps v n (i + 1)))) → ∃ σ' r τ', zf_Parser_readLock F σ = some σ' ∧ zf_M_declare F 0 τ = some (r, τ') ∧ ((r = 1 ∧ ygC p σ σ' ∧ ygM q τ τ' ∧ ∃ i', i < i' ∧ yDc F v n m p q V (L + 1) V i' σ' τ') ∨ (r = 0 ∧ yKF p q σ τ σ' τ')) := by
    intro hb hm
    refine ⟨yfl v n (i + 1) (yadv v n i σ), 0, _, ?_, em.trans hm, Or.inr ⟨rfl, yKF_t f1 f2 (yKF_fl (F := F) hB hp hP1 hM1).2⟩⟩
    rw [ec]
    unfold zf_Parser_readLock_23 zf_Parser_readLock_54
    rw [yy_dkn hB hP1 (by
      rcases hb with hb | hb | hb
      · exact Or.inl hb
      · exact Or.inr (Or.inl (if_neg (by omega)))
      · exact Or.inr (Or.inr hb)), yq_c, if_pos y00]
  by_cases hn : yx_c v n (i + 1) = 1002
  · obtain ⟨r, r1, r2, q1, q2, q3, q4⟩ := yy_lookd (F := F) (by omega) hB hq hM1.1.1 hP1 hn hS g4
    obtain ⟨d1, d2⟩ := ym_dec (x1 := 0) h1 e2 (yv_nl hq) (by omega) hW hL4 (fun _ => ⟨q2, q3⟩)
    rcases q4 with ⟨q5, q6⟩ | ⟨q5, q6, q7, q8⟩
    · exact hbad (Or.inr (Or.inr ⟨r, q1, q5⟩)) (d1 (Or.inr (Or.inr q6)))
    · by_cases h4 : L < 4
      · obtain ⟨τ2, k1, k2, k3, k4, k5, k6, k7⟩ := yDc_nm (W := L) (o := q + 4) (cell := 8 + nI L) h1 hn (Or.inr rfl)
        obtain ⟨c1, c2⟩ := yy_dk (F := F) (cell := 8 + nI L) hB hP1 hn g4 (by omega) q1 q5
        obtain ⟨x8, x9, x72⟩ := ydk_8 (v := v) (n := n) (j := i + 1) (B := V + L) (cell := 8 + nI L) (σ := yadv v n i σ)
        have x9' : zs_i (yadv v n (i + 1) (ydk v n (i + 1) (V + L) (8 + nI L) (yadv v n i σ))) 9 (V + L) = nI (8 + L) := x9.1.trans (nI_add 8 L)
        have k6' := k6 (V + L)
        have k7' := k7 (V + L)
        generalize hσ2 : yadv v n (i + 1) (ydk v n (i + 1) (V + L) (8 + nI L) (yadv v n i σ)) = σ2 at *
        obtain ⟨-, -, -, ⟨u1, u2, u3, u4, u5, u6, u7⟩, ⟨w1, w2, w3, -⟩, -, hv⟩ := h1
        have hD : yDc F v n m p q V (L + 1) V (i + 1 + 1) (zs_wi σ2 p 1 (nI (L + 1))) τ2 := by
          have hPw : yP v n m p (i + 1 + 1) (zs_wi σ2 p 1 (nI (L + 1))) := by
            obtain ⟨b1, b2, b3, b4, b5, b6, b7⟩ := c2
            exact ⟨b1, b2, by rw [yt_in _ _ (by omega)]; exact b3, by rw [yt_in _ _ (by omega)]; exact b4, b5, b6, yx_rowsF b7 (fun k => rfl) (fun k => yt_in _ _ (by omega)) (fun k => rfl)⟩
          have hti : ∀ a b, ¬ (a = 1 ∧ 6 ≤ b ∧ b ≤ 10) → ¬ (q + 4 ≤ a ∧ a ≤ q + 6) → zs_i τ2 a b = zs_i τ1 a b := fun a b x y => by rw [k3 a b x, yad_i _ _ (by omega)]
          have hci : ∀ a b, ¬ (a = 7 ∧ (b = 2 ∨ 5 ≤ b)) → a ≠ 9 → ¬ (a = p ∧ b = 1) → zs_i (zs_wi σ2 p 1 (nI (L + 1))) a b = zs_i (yadv v n i σ) a b := fun a b x y z => by rw [yt_in _ _ z, k7' a b x y]
          refine ⟨⟨hB, hp, hq, hF⟩, hPw, k2, ⟨(hci _ _ (by omega) (by omega) (by omega)).trans u1, yt_ie _ _ _ _, (hci _ _ (by omega) (by omega) (by omega)).trans u3, (hci _ _ (by omega) (by omega) (by omega)).trans u4, (hti _ _ (by omega) (by omega)).trans u5, (hti _ _ (by omega) (by omega)).trans u6, (hti _ _ (by omega) (by omega)).trans u7⟩, ⟨?_, (hti _ _ (by omega) (by omega)).trans w2, (hci _ _ (by omega) (by omega) (by omega)).trans w3, ?_⟩, ⟨_, _, _, _, yNS_F (yNS_l (σ' := zs_wi σ2 p 1 (nI (L + 1))) hB hq hM1.1.1 hn h4 hS q8 ⟨x8.1, x8.2⟩ ⟨(yt_in _ _ (by omega)).trans x9', fun k hk => (yt_in _ _ (by omega)).trans (x9.2 k hk)⟩) (fun k _ => rfl) (fun k _ => rfl) (fun a b x y => k3 a b (by omega))⟩, fun x hx => ⟨?_, ?_⟩⟩
          · rw [yt_in _ _ (by omega), ← hσ2]
            unfold yadv ydk
            simp (disch := omega) only [yt_in, yt_ie, yt_ir, yt_il, yt_ri, yt_rl, yt_rn, yt_re, yt_li, yt_lr, yt_ln, yt_le]
            have := w1
            unfold yadv at this
            simp (disch := omega) only [yt_in, yt_ie, yt_ir, yt_il, yt_ri, yt_rl, yt_rn, yt_re, yt_li, yt_lr, yt_ln, yt_le] at this
            exact this
          · rw [yt_in _ _ (by omega), x72]
            rfl
          · rw [hci _ _ (by omega) (by omega) (by omega), hti _ _ (by omega) (by omega)]
            exact (hv x hx).1
          · rw [hti _ _ (by omega) (by omega)]
            exact (hv x hx).2
        have gC : ygC p σ (zs_wi σ2 p 1 (nI (L + 1))) := ygC_t f1 (ygC_t k6' ⟨fun o k x y => ⟨yt_in _ _ (by omega), rfl, rfl⟩, rfl, rfl⟩)
        have hsz : zs_i σ2 p 1 = nI L := (k7' _ _ (by omega) (by omega)).trans u2
        have ec2 : zf_Parser_readLock F σ = zf_Parser_expect F 1023 (zs_wi σ2 p 1 (nI (L + 1))) := by
          rw [ec, if_pos h4]
          unfold zf_Parser_readLock_23 zf_Parser_readLock_54
          rw [c1, yq_c, if_neg y01, c2.2.1, zq_qr (by omega), yp_k hp, yq_g, hsz, nI_1, yq_v, yq_d]
        have em2 : zf_M_declare F 0 τ = zq_c (zf_M_take F 1316 τ2) fun r65 σ64 => zq_g (zq_z r65) <| some (r65, σ64) := by
          rw [em, d2 hn h4 q6 q7, k1, yq_s, if_pos y00]
          unfold zf_M_declare_154 zf_M_declare_233
          rw [if_pos y00]
        rcases yDc_ex hD (yi_1316 hD.2.2.1.1) (by decide) (by decide) (by decide) with ⟨-, -, τ3, z1, z2, z3, z4, z5⟩ | ⟨-, z1, z2, z3⟩
        · refine ⟨_, 1, τ3, ec2.trans z1, ?_, Or.inl ⟨rfl, ygC_t gC z4, ygM_t f2 (ygM_t k5 z5), i + 1 + 1 + 1, by omega, z3⟩⟩
          rw [em2, z2, yq_c, yz_1, yq_g]
        · refine ⟨_, 0, _, ec2.trans z1, ?_, Or.inr ⟨rfl, yKF_t gC (ygM_t f2 k5) z3⟩⟩
          rw [em2, z2, yq_c, yz_0, yq_g]
      · exact hbad (Or.inr (Or.inl (by omega))) (d1 (Or.inr (Or.inl (by omega))))
  · obtain ⟨d1, -⟩ := ym_dec (r1 := 0) (r2 := 0) (x1 := 0) h1 e2 (yv_nl hq) (by omega) hW hL4 (fun hh => absurd hh hn)
    exact hbad (Or.inl hn) (d1 (Or.inl hn))
end YDB
