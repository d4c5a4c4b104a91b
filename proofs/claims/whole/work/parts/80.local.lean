/-! a thread's locals -/
section YLO
variable {F n m p q t V L T : Nat} {v : Nat → Nat}
/-- the class after a fault, to the thread's end -/
theorem yk_98 {f : Int32} {σ : zs_S} (h : yK p f σ) (hp : yPP p) (hF : 0 < F) (ht : t < 4) : ∃ σ', zf_Parser_readThread_98 F (nI t) σ = some σ' ∧ yK p f σ' ∧ ygC p σ σ' := by
  have hp2 := yPP_b hp
  have hk : ∀ x, yK p f (zs_wi σ (p + 3) t x) := fun x => yK_F h (fun k => yt_in _ _ (by omega)) (fun k => rfl)
  have e136 : ∀ x, zf_Parser_readThread_136 F x (nI t) (p + 3) σ = some (zs_wi σ (p + 3) t x) := by
    intro x
    unfold zf_Parser_readThread_136
    rw [yp_k3 hp, yq_g, yp_z3 hp, yn_b ht (by decide), yq_g, nI_clamp (by omega), yq_v, yy_kexp (hk x) (by decide) (by decide), yq_s]
  have hg : ∀ x, ygC p σ (zs_wi σ (p + 3) t x) := fun x => ⟨fun o k x y => ⟨yt_in _ _ (by omega), rfl, rfl⟩, rfl, rfl⟩
  unfold zf_Parser_readThread_98
  rw [h.2.1, zq_qr (by omega), yp_k hp, yq_g, yq_v, yk_stats h hF, yq_s, h.2.1, zq_qr (by omega), yp_k hp, yq_g, yp_r6 hp, zq_qr (by omega), zq_qr (by omega), yp_k hp, yq_g, if_pos (Int32.le_refl _), e136]
  exact ⟨_, rfl, hk _, hg _⟩
theorem yk_72 {f : Int32} {N : Nat} {x2 : Int32} {σ : zs_S} (h : yK p f σ) (hp : yPP p) (hF : 0 < F) (ht : t < 4) (hN : 0 < N) : ∃ σ', zf_Parser_readThread_72 F N (nI t) x2 σ = some σ' ∧ yK p f σ' ∧ ygC p σ σ' := by
  obtain ⟨N, rfl⟩ : ∃ q, N = q + 1 := ⟨N - 1, by omega⟩
  obtain ⟨σ', h1, h2, h3⟩ := yk_98 (F := F) (t := t) h hp hF ht
  refine ⟨σ', ?_, h2, h3⟩
  rw [zf_Parser_readThread_72]
  by_cases hx : 3 < x2
  · rw [if_pos hx, h1]
  · rw [if_neg hx, h.2.2.2.2, zq_qr (by decide), yn_12 (by decide), yq_g, if_neg (by decide), h1]
/-- the search for a local -/
theorem yy_lookl {i : Nat} {σ τ : zs_S} {kt : Nat → Nat} (hF : 1600 < F) (hB : yB v n m) (hq : yQQ q) (ht : yx_TP v n τ) (hP : yP v n m p i σ) (hc : yx_c v n i = 1002) {S : Nat} (hS : S ≤ 12) (hT : yNT σ τ q t S T kt) : ∃ r r0, zf_Parser_find F (nI S) σ = some (r, σ) ∧ zf_MN_find F (q + 15 + 3 * t) 2 (nI (yx_ps v n i)) (nI (yln v n i)) τ = some (r0, τ) ∧ ((¬ r < 0 ∧ ¬ r0 < 0) ∨ (r < 0 ∧ r0 < 0 ∧ ∀ y, y < T → kt y ≠ yky v n i)) := by
  obtain ⟨b1, b2, b3, b4, b5, b6, b7, b8⟩ := hT
  obtain ⟨t1, t2, t3, -⟩ := yTN_i hB hc
  obtain ⟨r0, e0, c0⟩ := ym_find (F := F) (yv_nt hq b2).1 (by omega) ht t1 b6 b1 (fun x hx => (b7 x hx).1) (by omega)
  have hf : zf_Parser_find F (nI S) σ = zf_Parser_find_7 F F (nI S) (nI (S + T) - 1) σ := by
    unfold zf_Parser_find
    rw [b3, yq_v]
  rcases yy_cf (F := F) (a := S) (K := fun y => kt (y - S)) hB hP hc 20 (S + T) F (by omega) (by omega) (by omega) (by omega) (fun y y1 y2 => by
    have := b7 (y - S) (by omega)
    rw [show S + (y - S) = y by omega] at this
    exact ⟨this.2.1, this.2.2.1⟩) with ⟨y, y1, y2, y3, y4, y5⟩ | ⟨y1, y2⟩
  · have hcell := (b7 (y - S) (by omega)).2.2.2
    rw [show S + (y - S) = y by omega] at hcell
    refine ⟨_, r0, hf.trans y4, e0, Or.inl ⟨by rw [hcell]; exact nI_pos (by omega), ?_⟩⟩
    rcases c0 with ⟨x, x1, x2, x3⟩ | ⟨x1, x2⟩
    · rw [x2]
      exact nI_pos (by omega)
    · exact absurd y3 (x2 (y - S) (by omega))
  · refine ⟨_, r0, hf.trans y2, e0, Or.inr ⟨by decide, ?_, fun y hy => ?_⟩⟩
    · rcases c0 with ⟨x, x1, x2, x3⟩ | ⟨x1, x2⟩
      · have := y1 (S + x) (by omega) (by omega)
        rw [show S + x - S = x by omega] at this
        exact absurd x3 this
      · rw [x1]
        decide
    · have := y1 (S + y) (by omega) (by omega)
      rw [show S + y - S = y by omega] at this
      exact this
/-- one local -/
theorem yN_loc {i s a c e : Nat} {σ τ : zs_S} (hF : 1700 < F) (h : yN F v n m p q t V L T i s a c e σ τ) (hc : yx_c v n i = 1008) (hl : zs_i σ (p + 2) t = nI T) : ∃ (σ' : zs_S) (r : Int32) (τ' : zs_S), zf_Parser_readLocal F (nI t) σ = some σ' ∧ (∀ M, zf_M_thread_82 F (M + 1) (nI t) τ = if r = 0 then some (0, τ') else zf_M_thread_82 F M (nI t) τ') ∧ ((r = 1 ∧ T < 3 ∧ ∃ i', i < i' ∧ yN F v n m p q t V L (T + 1) i' s a c e σ' τ' ∧ zs_i σ' (p + 2) t = nI (T + 1) ∧ (∀ o k, ¬ (o = 7 ∧ (k = 2 ∨ 5 ≤ k)) → o ≠ 9 → ¬ (o = p + 2 ∧ k = t) → zs_i σ' o k = zs_i σ o k) ∧ (∀ o k, o ≠ 7 → zs_r σ' o k = zs_r σ o k) ∧ (∀ o k, o ≠ 8 → zs_l σ' o k = zs_l σ o k) ∧ zs_r σ' 7 7 = zs_r σ 7 7 ∧ zs_r σ' 7 4 = zs_r σ 7 4 ∧ (∀ o k, ¬ (o = 1 ∧ 6 ≤ k ∧ k ≤ 10) → ¬ (q + 15 + 3 * t ≤ o ∧ o ≤ q + 17 + 3 * t) → zs_i τ' o k = zs_i τ o k) ∧ (∀ o k, zs_r τ' o k = zs_r τ o k)) ∨ (r = 0 ∧ yKF p q σ τ σ' τ')) := by
  obtain ⟨k1, k2, k3, k4, hA, hp2, hq2⟩ := yN_tok h
  have hp := h.1.2.1
  have hq := h.1.2.2
  have hB := h.1.1
  have h00 := h
  have hi := yB_lt hB k4 (by omega) (by omega)
  obtain ⟨τ1, e1, e2, h1, f1, f2, -⟩ := yN_st h hi
  have h1' := h1
  obtain ⟨-, hP1, hM1, ⟨s6, s7, s8⟩, ⟨s9, s9b, s9c⟩, ⟨s10, s10b⟩, ⟨s11, s11b⟩, ⟨C, K, kv, kl, kt, hS, hT⟩⟩ := h1'
  have hV8 := hS.1
  have hL4 := hS.2.1
  obtain ⟨b1, b2, b3, b4, b5, b6, b7, b8⟩ := id hT
  obtain ⟨o1, o2, o3, o4, o5, o6, o7, o8, o9⟩ := id (yv_nt hq b2).1
  have hA1 := hM1.1
  have e2b := ym_bad (F := F) hM1
  have ec : zf_Parser_readLocal F (nI t) σ = zf_Parser_readLocal_25 F (nI t) (nI T) (if T < 3 then 1 else 0) (yadv v n i σ) := by
    unfold zf_Parser_readLocal
    rw [h.2.1.2.1, zq_qr (by omega), yp_k hp, yq_g, yp_r5 hp, zq_qr (by omega), yp_k2 hp, yq_g, yp_z2 hp, yn_b b2 (by decide), yq_g, nI_clamp (by omega), hl, yq_v, e1, yq_s, show (3 : Int32) = nI 3 from rfl]
    by_cases h4 : T < 3
    · rw [if_pos h4, if_neg (nI_ge h4 (by omega))]
    · rw [if_neg h4, if_pos (nI_le (by omega) (by omega))]
  have hcell : (20 : Int32) + nI t * 3 + nI T = nI (20 + 3 * t + T) := by
    rw [show nI t * 3 = nI (t * 3) from yn_mul t 3, show (20 : Int32) = nI 20 from rfl, nI_add, nI_add, show 20 + t * 3 + T = 20 + 3 * t + T by omega]
  have h73 : zs_i (yadv v n i σ) 7 3 = nI (V + L) := b4
  have m140 : zf_M_thread_140 F τ1 = some (0, zs_wi τ1 1 11 (nI (yx_ps v n (i + 1)))) := by
    unfold zf_M_thread_140
    rw [e2b, yq_c, yz_0, yq_g]
  have gC1 : ygC p σ (yadv v n i σ) := ygC_C f1 hp
  have gM1 : ygM q τ τ1 := ygM_L f2
  have hbad : (yx_c v n (i + 1) ≠ 1002 ∨ T = 3 ∨ (∃ r, zf_Parser_find F (nI (V + L)) (yadv v n i σ) = some (r, yadv v n i σ) ∧ ¬ r < 0)) → (∀ M, zf_M_thread_82 F (M + 1) (nI t) τ = some (0, zs_wi τ1 1 11 (nI (yx_ps v n (i + 1))))) → ∃ (σ' : zs_S) (r : Int32) (τ' : zs_S), zf_Parser_readLocal F (nI t) σ = some σ' ∧ (∀ M, zf_M_thread_82 F (M + 1) (nI t) τ = if r = 0 then some (0, τ') else zf_M_thread_82 F M (nI t) τ') ∧ ((r = 1 ∧ T < 3 ∧ ∃ i', i < i' ∧ yN F v n m p q t V L (T + 1) i' s a c e σ' τ' ∧ zs_i σ' (p + 2) t = nI (T + 1) ∧ (∀ o k, ¬ (o = 7 ∧ (k = 2 ∨ 5 ≤ k)) → o ≠ 9 → ¬ (o = p + 2 ∧ k = t) → zs_i σ' o k = zs_i σ o k) ∧ (∀ o k, o ≠ 7 → zs_r σ' o k = zs_r σ o k) ∧ (∀ o k, o ≠ 8 → zs_l σ' o k = zs_l σ o k) ∧ zs_r σ' 7 7 = zs_r σ 7 7 ∧ zs_r σ' 7 4 = zs_r σ 7 4 ∧ (∀ o k, ¬ (o = 1 ∧ 6 ≤ k ∧ k ≤ 10) → ¬ (q + 15 + 3 * t ≤ o ∧ o ≤ q + 17 + 3 * t) → zs_i τ' o k = zs_i τ o k) ∧ (∀ o k, zs_r τ' o k = zs_r τ o k)) ∨ (r = 0 ∧ yKF p q σ τ σ' τ')) := by
    intro hb hm
    refine ⟨yfl v n (i + 1) (yadv v n i σ), 0, zs_wi τ1 1 11 (nI (yx_ps v n (i + 1))), ?_, fun M => by rw [hm M, if_pos y00], Or.inr ⟨rfl, yKF_t gC1 gM1 (yKF_fl (F := F) hB hp hP1 hM1).2⟩⟩
    rw [ec]
    unfold zf_Parser_readLocal_25 zf_Parser_readLocal_60 zf_S_localCell
    rw [yq_c, h73, yy_dkn hB hP1 (by
      rcases hb with hb | hb | hb
      · exact Or.inl hb
      · exact Or.inr (Or.inl (if_neg (by omega)))
      · exact Or.inr (Or.inr hb)), yq_c, if_pos y00]
  have em0 : ∀ M, zf_M_thread_82 F (M + 1) (nI t) τ = zq_c (zf_M_isName F τ1) fun r48 σ47 => if r48 = 0 then zf_M_thread_140 F σ47 else zq_q (zs_r σ47 1 13) fun q50 => zq_g (zq_k 1 q50 20) <| if (zs_i σ47 q50 2) = 3 then zf_M_thread_140 F σ47 else zq_q (zs_r σ47 1 13) fun q52 => zq_g (zq_k 1 q52 20) <| zq_c (zf_MN_find F q52 2 (zs_i σ47 1 8) ((zs_i σ47 1 9) - (zs_i σ47 1 8)) σ47) fun r54 σ53 => if r54 < 0 then zq_q (zs_r σ53 1 13) fun q57 => zq_g (zq_k 1 q57 20) <| zq_d (zf_MN_add F q57 2 (zs_i σ53 1 8) ((zs_i σ53 1 9) - (zs_i σ53 1 8)) σ53) fun σ58 => zq_d (zf_M_step F σ58) fun σ62 => zq_c (zf_M_take F 1316 σ62) fun r66 σ65 => if r66 = 0 then some (0, σ65) else (zf_M_thread_82 F M) (nI t) σ65 else zf_M_thread_140 F σ53 := by
    intro M
    rw [zf_M_thread_82, yi_1303 hA, yq_c, if_pos (show (yx_tk v n (yx_ps v n i)).1 = 1008 from hc), if_neg y01, e2, yq_s]
  have T3 : (nI T = (3 : Int32)) = (T = 3) := yn_eq (a := T) (b := 3) (by omega) (by omega)
  by_cases hn : yx_c v n (i + 1) = 1002
  · obtain ⟨r, r0, q1, q2, q3⟩ := yy_lookl (F := F) (by omega) hB hq hM1.1.1 hP1 hn (by omega) hT
    obtain ⟨j1, j2⟩ := yM_c hB hM1 hn
    have em1 : ∀ M, zf_M_thread_82 F (M + 1) (nI t) τ = if T = 3 then some (0, zs_wi τ1 1 11 (nI (yx_ps v n (i + 1)))) else if r0 < 0 then zq_d (zf_MN_add F (q + 15 + 3 * t) 2 (nI (yx_ps v n (i + 1))) (nI (yln v n (i + 1))) τ1) fun σ58 => zq_d (zf_M_step F σ58) fun σ62 => zq_c (zf_M_take F 1316 σ62) fun r66 σ65 => if r66 = 0 then some (0, σ65) else (zf_M_thread_82 F M) (nI t) σ65 else some (0, zs_wi τ1 1 11 (nI (yx_ps v n (i + 1)))) := by
      intro M
      rw [em0 M, yy_name hA1, yq_c, if_pos (show (yx_tk v n (yx_ps v n (i + 1))).1 = 1002 from hn), if_neg y01, b5, zq_qr (by omega), o1, yq_g, b6, m140]
      by_cases hT3 : T = 3
      · rw [if_pos (T3.mpr hT3), if_pos hT3]
      · rw [if_neg (fun e => hT3 (T3.mp e)), if_neg hT3, zq_qr (by omega), o1, yq_g, j2, j1, q2, yq_c, m140, b5, zq_qr (by omega), o1, yq_g, j2, j1]
    rcases q3 with ⟨q5, q6⟩ | ⟨q5, q6, q7⟩
    · refine hbad (Or.inr (Or.inr ⟨r, q1, q5⟩)) (fun M => ?_)
      rw [em1 M, if_neg q6]
      by_cases hT3 : T = 3
      · rw [if_pos hT3]
      · rw [if_neg hT3]
    · by_cases hT3 : T = 3
      · exact hbad (Or.inr (Or.inl hT3)) (fun M => by rw [em1 M, if_pos hT3])
      · have hT4 : T < 3 := by omega
        obtain ⟨t1, t2, t3, -⟩ := yTN_i hB hn
        have hadd := ym_add (F := F) (yv_nt hq b2).1 (by omega) hM1.1.1 t1 b6 hT4
        have hM2 : yM F v n m q (i + 1) (yad τ1 (q + 15 + 3 * t) T (yln v n (i + 1)) (yx_ps v n (i + 1))) := yM_L hM1 (fun k => yad_i _ _ (by omega)) (fun k _ _ => yad_i _ _ (by omega)) rfl
        have hi1 := yB_lt hB hP1.2.2.2.2.2.1 (by omega) (by omega)
        obtain ⟨τ2, x3, x4, x5⟩ := yw_e (ym_step hB hM2 hi1)
        obtain ⟨c1, c2⟩ := yy_dk (F := F) (cell := nI (20 + 3 * t + T)) hB hP1 hn b3 (by omega) q1 q5
        obtain ⟨y8, y9, y72⟩ := ydk_8 (v := v) (n := n) (j := i + 1) (B := V + L + T) (cell := nI (20 + 3 * t + T)) (σ := yadv v n i σ)
        have kci : ∀ a b, ¬ (a = 7 ∧ (b = 2 ∨ 5 ≤ b)) → a ≠ 9 → zs_i (yadv v n (i + 1) (ydk v n (i + 1) (V + L + T) (nI (20 + 3 * t + T)) (yadv v n i σ))) a b = zs_i σ a b := fun a b x y => by
          unfold yadv ydk
          simp (disch := omega) only [yt_in, yt_ie, yt_ir, yt_il, yt_ri, yt_rl, yt_rn, yt_re, yt_li, yt_lr, yt_ln, yt_le]
        have kcr : ∀ a b, a ≠ 7 → zs_r (yadv v n (i + 1) (ydk v n (i + 1) (V + L + T) (nI (20 + 3 * t + T)) (yadv v n i σ))) a b = zs_r σ a b := fun a b x => by
          unfold yadv ydk
          simp (disch := omega) only [yt_in, yt_ie, yt_ir, yt_il, yt_ri, yt_rl, yt_rn, yt_re, yt_li, yt_lr, yt_ln, yt_le]
        have kcl : ∀ a b, a ≠ 8 → zs_l (yadv v n (i + 1) (ydk v n (i + 1) (V + L + T) (nI (20 + 3 * t + T)) (yadv v n i σ))) a b = zs_l σ a b := fun a b x => by
          unfold yadv ydk
          simp (disch := omega) only [yt_in, yt_ie, yt_ir, yt_il, yt_ri, yt_rl, yt_rn, yt_re, yt_li, yt_lr, yt_ln, yt_le]
        have k79 : zs_i (yadv v n (i + 1) (ydk v n (i + 1) (V + L + T) (nI (20 + 3 * t + T)) (yadv v n i σ))) 7 9 = zs_i (yadv v n i σ) 7 9 := by
          unfold yadv ydk
          simp (disch := omega) only [yt_in, yt_ie, yt_ir, yt_il, yt_ri, yt_rl, yt_rn, yt_re, yt_li, yt_lr, yt_ln, yt_le]
        have k77 : zs_r (yadv v n (i + 1) (ydk v n (i + 1) (V + L + T) (nI (20 + 3 * t + T)) (yadv v n i σ))) 7 7 = zs_r σ 7 7 := rfl
        have k74 : zs_r (yadv v n (i + 1) (ydk v n (i + 1) (V + L + T) (nI (20 + 3 * t + T)) (yadv v n i σ))) 7 4 = zs_r σ 7 4 := rfl
        generalize hσ2 : yadv v n (i + 1) (ydk v n (i + 1) (V + L + T) (nI (20 + 3 * t + T)) (yadv v n i σ)) = σ2 at *
        have hti : ∀ a b, ¬ (a = 1 ∧ 6 ≤ b ∧ b ≤ 10) → ¬ (q + 15 + 3 * t ≤ a ∧ a ≤ q + 17 + 3 * t) → zs_i τ2 a b = zs_i τ a b := fun a b x y => by rw [x5.1 a b x, yad_i _ _ (by omega), f2.1 a b x]
        have hci : ∀ a b, ¬ (a = 7 ∧ (b = 2 ∨ 5 ≤ b)) → a ≠ 9 → ¬ (a = p + 2 ∧ b = t) → zs_i (zs_wi σ2 (p + 2) t (nI (T + 1))) a b = zs_i σ a b := fun a b x y z => by rw [yt_in _ _ z, kci a b x y]
        have hN3 : yN F v n m p q t V L (T + 1) (i + 1 + 1) s a c e (zs_wi σ2 (p + 2) t (nI (T + 1))) τ2 := by
          have hPw : yP v n m p (i + 1 + 1) (zs_wi σ2 (p + 2) t (nI (T + 1))) := by
            obtain ⟨g1, g2, g3, g4, g5, g6, g7⟩ := c2
            exact ⟨g1, g2, by rw [yt_in _ _ (by omega)]; exact g3, by rw [yt_in _ _ (by omega)]; exact g4, g5, g6, yx_rowsF g7 (fun k => rfl) (fun k => yt_in _ _ (by omega)) (fun k => rfl)⟩
          obtain ⟨-, -, -, ⟨z6, z7, -⟩, ⟨z9, z9b, -⟩, ⟨z10, -⟩, ⟨z11, -⟩, -⟩ := h
          refine ⟨⟨hB, hp, hq⟩, hPw, x4, ⟨(hci _ _ (by omega) (by omega) (by omega)).trans z6, (hti _ _ (by omega) (by omega)).trans z7, s8⟩, ⟨?_, (hti _ _ (by omega) (by omega)).trans z9b, s9c⟩, ⟨(hci _ _ (by omega) (by omega) (by omega)).trans z10, by omega⟩, ⟨(hti _ _ (by omega) (by omega)).trans z11, s11b⟩, ⟨C, K, kv, kl, yup kt T (yky v n (i + 1)), ?_, ?_⟩⟩
          · rw [yt_in _ _ (by omega), k79]
            exact s9
          · refine yNS_F hS (fun k hk => ?_) (fun k hk => ?_) (fun o k x y => ?_)
            · exact y8.2 k (by omega)
            · rw [yt_in _ _ (by omega)]
              exact y9.2 k (by omega)
            · rw [x5.1 _ _ (by omega), yad_i _ _ (by omega)]
          · refine ⟨by omega, b2, ?_, ?_, (x5.2 _ _).trans b5, ?_, fun x hx => ?_, fun x y hx hy e => ?_⟩
            · rw [yt_in _ _ (by omega), y72]
              rfl
            · rw [hci _ _ (by omega) (by omega) (by omega)]
              obtain ⟨C', K', kv', kl', kt', -, hT'⟩ := h00.2.2.2.2.2.2.2
              exact hT'.2.2.2.1
            · rw [x5.1 _ _ (by omega), yad_m]
            · by_cases hxT : x = T
              · rw [hxT, yup_e]
                refine ⟨yRK_F (yad_n (yv_nt hq b2).1 hM1.1.1 t1) (fun k => x5.1 _ _ (by omega)) (fun k => x5.1 _ _ (by omega)), y8.1, t3, ?_⟩
                rw [yt_in _ _ (by omega)]
                exact y9.1
              · rw [yup_n hxT]
                obtain ⟨d1, d2, d3, d4⟩ := b7 x (by omega)
                refine ⟨yRK_F (yad_k (yv_nt hq b2).1 hM1.1.1 t1 (by omega) d1) (fun k => x5.1 _ _ (by omega)) (fun k => x5.1 _ _ (by omega)), (y8.2 _ (by omega)).trans d2, d3, ?_⟩
                rw [yt_in _ _ (by omega), y9.2 _ (by omega)]
                exact d4
            · by_cases hxT : x = T
              · by_cases hyT : y = T
                · omega
                · rw [hxT, yup_e, yup_n hyT] at e
                  exact absurd e.symm (q7 y (by omega))
              · by_cases hyT : y = T
                · rw [hyT, yup_e, yup_n hxT] at e
                  exact absurd e (q7 x (by omega))
                · rw [yup_n hxT, yup_n hyT] at e
                  exact b8 x y (by omega) (by omega) e
        have hl2 : zs_i σ2 (p + 2) t = nI T := (kci _ _ (by omega) (by omega)).trans hl
        have ec2 : zf_Parser_readLocal F (nI t) σ = zf_Parser_expect F 1023 (zs_wi σ2 (p + 2) t (nI (T + 1))) := by
          rw [ec, if_pos hT4]
          unfold zf_Parser_readLocal_25 zf_Parser_readLocal_60 zf_S_localCell
          rw [yq_c, h73, hcell, c1, yq_c, if_neg y01, c2.2.1, zq_qr (by omega), yp_k hp, yq_g, yp_r5 hp, zq_qr (by omega), yp_k2 hp, yq_g, yp_z2 hp, yn_b b2 (by decide), yq_g, yq_g, nI_clamp (by omega), hl2, nI_1, yq_v, yq_d]
        have em2 : ∀ M, zf_M_thread_82 F (M + 1) (nI t) τ = zq_c (zf_M_take F 1316 τ2) fun r66 σ65 => if r66 = 0 then some (0, σ65) else (zf_M_thread_82 F M) (nI t) σ65 := by
          intro M
          rw [em1 M, if_neg hT3, if_pos q6, hadd, yq_s, x3, yq_s]
        have gC3 : ygC p σ (zs_wi σ2 (p + 2) t (nI (T + 1))) := ⟨fun o k x y => ⟨hci o k (by omega) (by omega) (by omega), (kcr o k (by omega)), (kcl o k (by omega))⟩, k77, k74⟩
        have gM3 : ygM q τ τ2 := ⟨fun o k x y z => hti o k (by omega) (by omega), fun o k _ => (x5.2 o k).trans (f2.2 o k)⟩
        rcases yN_ex hN3 (yi_1316 hN3.2.2.1.1) (by decide) (by decide) (by decide) with ⟨-, τ3, z1, z2, z3, z4, z5, z6⟩ | ⟨z1, z2, z3⟩
        · refine ⟨_, 1, τ3, ec2.trans z1, fun M => by rw [em2 M, z2, yq_c], Or.inl ⟨rfl, hT4, i + 1 + 1 + 1, by omega, z3, ?_, fun o k w1 w2 w3 => ?_, fun o k w1 => ?_, fun o k w1 => ?_, ?_, ?_, fun o k w1 w2 => ?_, fun o k => ?_⟩⟩
          · rw [z4.1 _ _ (by omega) (by omega) (by omega), yt_ie]
          · unfold yadv
            rw [yt_ir, yt_in _ _ (by omega), hci o k w1 w2 w3]
          · unfold yadv
            rw [yt_rn _ _ (by omega), yt_ri, yt_ri, kcr o k w1]
          · exact kcl o k w1
          · exact k77
          · exact k74
          · rw [z5.1 o k w1, hti o k w1 w2]
          · rw [z5.2 o k, x5.2 o k]
            exact f2.2 o k
        · refine ⟨_, 0, _, ec2.trans z1, fun M => by rw [em2 M, z2, yq_c, if_pos y00], Or.inr ⟨rfl, yKF_t gC3 gM3 (yKF_X hp z3)⟩⟩
  · refine hbad (Or.inl hn) (fun M => ?_)
    rw [em0 M, yy_name hA1, yq_c, if_neg (show ¬ (yx_tk v n (yx_ps v n (i + 1))).1 = 1002 from hn), if_pos y00, m140]
end YLO
