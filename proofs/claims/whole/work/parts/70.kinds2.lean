/-! assert, assignments, locks -/
section YKB
variable {F n m p q t V L T : Nat} {v : Nat → Nat}
/-- assert -/
theorem ykd_assert {i s a c e fr : Nat} {par x2 : Int32} {σ τ : zs_S} {kS : Int32 → Int32 → zs_S → Option (Int32 × zs_S)} (h : yPr F v n m p q t V L T i s a c e fr par σ τ) (hc : yx_c v n i = 1014) : yr (zf_Parser_readAssert F (p + 5 + s) σ) (zf_M_statement kS F (nI s) x2 τ) (fun σ' r => yKD F v n m p q t V L T i s c e fr par σ τ r.1 σ' r.2) := by
  have h0 := h
  obtain ⟨hN, ⟨he, hfr, hs, hF⟩, hop, o1, o5, o6, o7, o8⟩ := h
  obtain ⟨k1, k2, k3, k4, hA, hp2, hq2⟩ := yN_tok hN
  have hp := hN.1.2.1
  have hq := hN.1.2.2
  have hi := yB_lt hN.1.1 k4 (by omega) (by omega)
  have hNp : yN F v n m p q t V L T i (s + 1) a c e σ (yps τ fr (3 * s)) := yN_o hN (fun o k x => rfl) (fun o k x => rfl) (fun o k => rfl) (fun o k x y z => yps_i x (by omega)) (fun o k => rfl)
  have hN1 : yN F v n m p q t V L T i (s + 1) a c e (zs_wr σ (p + 5 + s) 0 1106) (zs_wi (yps τ fr (3 * s)) (q + 10) s 6) := yN_o hNp (fun o k x => rfl) (fun o k x => yt_rn _ _ (by omega)) (fun o k => rfl) (fun o k x y z => yt_in _ _ (by omega)) (fun o k => rfl)
  obtain ⟨τ1, e1, e2, hN2, f1, f2, -⟩ := yN_st hN1 hi
  obtain ⟨σ2, ⟨r, τ2⟩, e3, e4, ⟨w1, w2⟩, hw⟩ := yy_whole (s0 := s) hF hN2 hs (by omega)
  have ec : zf_Parser_readAssert F (p + 5 + s) σ = zf_Parser_expect F 1023 σ2 := by
    unfold zf_Parser_readAssert
    rw [yp_sk hp hs, yq_g, yq_v, e1, yq_s, e3, yq_s, yq_d]
  have hAp := hNp.2.2.1.1
  have em : zf_M_statement kS F (nI s) x2 τ = if r = 0 then some (0, τ2) else zq_c (zf_M_take F 1316 τ2) fun r59 σ58 => if r59 = 0 then zf_M_statement_303 kS F σ58 else zf_M_statement_304 kS F 1 σ58 := by
    unfold zf_M_statement
    rw [yi_1310 hA, yq_c, if_neg (ytk_ne hc (by decide)), if_pos y00, yi_1312 hA, yq_c, if_neg (ytk_ne hc (by decide)), if_pos y00, yi_1313 hA, yq_c, if_neg (ytk_ne hc (by decide)), if_pos y00, hop, nI_1, yq_v, yn_b (show fr < 200 by omega) (by decide), yq_g, nI_clamp (by omega), yn_3, yq_v]
    show zq_c (zf_M_is F 1309 (yps τ fr (3 * s))) _ = _
    rw [yi_1309 hAp, yq_c, if_pos (show (yx_tk v n (yx_ps v n i)).1 = 1014 from hc), if_neg y01, hNp.2.2.1.2.2.1, zq_qr (by omega), yv_k hq, yq_g, yv_r7 hq, zq_qr (by omega), yv_k10 hq, yq_g, yv_z10 hq, yn_b hs (by decide), yq_g, nI_clamp (by omega), yq_v, e2, yq_s, e4, yq_c]
    rfl
  have fS : yfS p s c σ (zs_wr σ (p + 5 + s) 0 1106) := ⟨fun o k _ _ _ _ _ => rfl, fun o k _ _ _ => yt_rn _ _ (by omega), fun o k => rfl⟩
  have fT : yfT q s e τ (zs_wi (yps τ fr (3 * s)) (q + 10) s 6) := ⟨fun o k _ _ _ _ _ => by rw [yt_in _ _ (by omega), yps_i (by omega) (by omega)], fun o k => rfl⟩
  have gS : yfS p s c σ σ2 := yfS_t fS (yfS_t (yfS_C f1) (yfS_W hs w1) (Nat.le_refl s) (Nat.le_refl c)) (Nat.le_refl s) (Nat.le_refl c)
  have gT : yfT q s e τ τ2 := yfT_t fT (yfT_t (yfT_M (yfM_L f2)) (yfT_V w2) (Nat.le_refl s) (Nat.le_refl e)) (Nat.le_refl s) (Nat.le_refl e)
  rw [ec, em]
  rcases hw with ⟨hr, i', a', c', e', l, g1, g2, g3, g4⟩ | ⟨hr, f, c', g1, g2, g3, -⟩
  · have hr : r = 1 := hr
    subst hr
    have g2 : yN F v n m p q t V L T i' (s + 1) a' c' e' σ2 τ2 := g2
    have g3 : yEx σ2 τ2 p q t V T s c c' e e' l := g3
    rw [if_neg y01]
    rcases yN_ex g2 (yi_1316 g2.2.2.1.1) (by decide) (by decide) (by decide) with ⟨-, τ3, x1, x2, x3, x4, x5, x6⟩ | ⟨x1, x2, x3⟩
    · rw [x1, x2, yq_c, if_neg y01]
      unfold zf_M_statement_304
      rw [yz_1, yq_g]
      have w2 : yfV q e s τ1 τ2 := w2
      have hti : ∀ o k, ¬ (o = 1 ∧ 6 ≤ k ∧ k ≤ 14) → (o = 1 ∨ o = q + 9 ∨ o = q + 13 ∨ o = 57) → zs_i τ3 o k = zs_i (yps τ fr (3 * s)) o k := fun o k z1 z2 => by rw [x5.1 o k (by omega), w2.1 o k z1 (by omega) (by omega) (by omega), f2.1 o k (by omega), yt_in _ _ (by omega)]
      have hci : ∀ k, k = 1 ∨ k = 5 ∨ k = 6 ∨ k = 7 → zs_i (yadv v n i' σ2) (p + 5 + s) k = zs_i σ (p + 5 + s) k := fun k hk => by rw [x4.1 _ _ (by omega) (by omega) (by omega), w1.1 _ _ (by omega) (by omega) (by omega) (by omega), f1.1 _ _ (by omega) (by omega) (by omega), yt_ir]
      have hcr : zs_r (yadv v n i' σ2) (p + 5 + s) 0 = 1106 := by rw [x4.2.1 _ _ (by omega) (by omega), w1.2.1 _ _ (by omega) (by omega), f1.2.1 _ _ (by omega) (by omega), yt_re]
      have hk9 : zs_i τ3 (q + 10) s = nI 6 := by rw [x5.1 _ _ (by omega), w2.1 _ _ (by omega) (by omega) (by omega) (by omega), f2.1 _ _ (by omega), yt_ie]; rfl
      refine yr_i rfl rfl (yKD_s h0 x3 (by omega) (op' := fr + 1) ((hti _ _ (by omega) (by omega)).trans yps_o) ⟨yfS_t gS (yfS_C x4) (Nat.le_refl s) (by omega), yfT_t gT (yfT_M (yfM_L (e := e') x5)) (Nat.le_refl s) (by omega)⟩ (fun k => (hti _ _ (by omega) (by omega)).trans (yps_i (by omega) (by omega))) (fun k => (hti _ _ (by omega) (by omega)).trans (yps_i (by omega) (by omega))) (fun j _ => (hti _ _ (by omega) (by omega)).trans (yps_i (by omega) (by omega))) hci ⟨6, by omega, hcr, hk9, fun k => by omega, fun k => by omega, fun _ => ⟨c, c', e, e', l, Nat.le_refl _, Nat.le_refl _, ?_, ?_⟩, fun k => by omega⟩ (Or.inr ⟨by rw [hcr]; decide, rfl, (hti _ _ (by omega) (by omega)).trans yps_e⟩))
      · exact yEx_F g3 (Nat.le_refl _) (Nat.le_refl _) (fun k hk => x4.1 _ _ (by omega) (by omega) (by omega)) (fun k hk => ⟨x4.2.1 _ _ (by omega) (by omega), x4.1 _ _ (by omega) (by omega) (by omega)⟩) (x5.1 _ _ (by omega)) (fun k hk => x5.1 _ _ (by omega))
      · rw [x4.1 _ _ (by omega) (by omega) (by omega)]
        exact g4
    · rw [x1, x2, yq_c, if_pos y00]
      unfold zf_M_statement_303 zf_M_statement_304
      rw [yz_0, yq_g]
      exact yr_i rfl rfl (Or.inr ⟨rfl, yKF_t (ygC_S hp gS) (ygM_T gT) (yKF_X hp x3)⟩)
  · have hr : r = 0 := hr
    subst hr
    rw [if_pos y00]
    exact yr_i (yy_kexp g1 (by decide) (by decide)) rfl (Or.inr ⟨rfl, ygC_S hp gS, ygM_T gT, f, g3, g1, g2⟩)
/-- the class finds nothing where no name stands -/
theorem yy_cfn {i : Nat} {σ : zs_S} (hP : yP v n m p i σ) (hB : yB v n m) (hc : yx_c v n i ≠ 1002) : ∀ d b N, b ≤ d → b ≤ 15 → d < N → zf_Parser_find_7 F N (nI 0) (nI b - 1) σ = some (-2, σ) := by
  have hk := hP.2.2.2.2.1
  have ht := yB_t hB i
  have h01 : nI 0 - 1 < nI 0 := by decide
  intro d
  induction d with
  | zero =>
    intro b N h1 h2 h3
    obtain ⟨N, rfl⟩ : ∃ q, N = q + 1 := ⟨N - 1, by omega⟩
    have : b = 0 := by omega
    subst this
    rw [zf_Parser_find_7, if_pos h01]
  | succ d ih =>
    intro b N h1 h2 h3
    obtain ⟨N, rfl⟩ : ∃ q, N = q + 1 := ⟨N - 1, by omega⟩
    by_cases hb : b = 0
    · subst hb
      rw [zf_Parser_find_7, if_pos h01]
    · obtain ⟨b, rfl⟩ : ∃ q, b = q + 1 := ⟨b - 1, by omega⟩
      rw [nI_pred, zf_Parser_find_7, if_neg (nI_nlt (by omega) (by omega)), hk, zq_qr (by omega), yn_12 (by omega), yq_g, if_neg hc]
      unfold zf_Parser_find_51
      rw [yq_v, show nI b + (-1) = nI b - 1 from (Int32.sub_eq_add_neg _ _).symm]
      exact ih b N (by omega) (by omega) (by omega)
theorem yy_lookn {i : Nat} {σ τ : zs_S} (hP : yP v n m p i σ) (hB : yB v n m) (hc : yx_c v n i ≠ 1002) (hF : 100 < F) (hN : yNm σ τ q t V L T) : zf_Parser_find F 0 σ = some (-2, σ) := by
  obtain ⟨C, K, kv, kl, kt, hS, hT⟩ := hN
  obtain ⟨b1, b2, b3, -⟩ := hT
  have := hS.1
  have := hS.2.1
  unfold zf_Parser_find
  rw [b3, yq_v]
  exact yy_cfn hP hB hc 20 (V + L + T) F (by omega) (by omega) (by omega)
theorem yy_isv {x : Nat} (hx : x < 100) (σ : zs_S) : zf_Parser_isVariable F (nI x) σ = some (if x < 8 then 1 else 0, σ) := by
  unfold zf_Parser_isVariable zf_Parser_isVariable_14 zf_Parser_isVariable_15
  rw [if_neg (nI_pos (by omega)), yn_8]
  by_cases q8 : x < 8
  · rw [if_neg (nI_ge q8 (by omega)), if_pos q8]
    rfl
  · rw [if_pos (nI_le (by omega) (by omega)), if_neg q8]
    rfl
theorem yy_isl {x : Nat} (hx : x < 100) (σ : zs_S) : zf_Parser_isLocal F (nI x) σ = some (if x < 20 then 0 else 1, σ) := by
  unfold zf_Parser_isLocal zf_Parser_isLocal_11
  rw [show (20 : Int32) = nI 20 from rfl]
  by_cases q8 : x < 20
  · rw [if_pos (nI_lt q8 (by omega)), if_pos q8]
    rfl
  · rw [if_neg (nI_nlt (by omega) (by omega)), if_neg q8]
    rfl
theorem yy_isv2 (σ : zs_S) : zf_Parser_isVariable F (-2) σ = some (0, σ) := by
  unfold zf_Parser_isVariable zf_Parser_isVariable_14 zf_Parser_isVariable_15
  rw [if_pos (by decide)]
  rfl
theorem yy_isl2 (σ : zs_S) : zf_Parser_isLocal F (-2) σ = some (0, σ) := by
  unfold zf_Parser_isLocal zf_Parser_isLocal_11
  rw [if_pos (by decide)]
  rfl
theorem yy_isk {x : Nat} (hx : x < 100) (σ : zs_S) : zf_Parser_isLock F (nI x) σ = some (if 8 ≤ x ∧ x < 12 then 1 else 0, σ) := by
  unfold zf_Parser_isLock zf_Parser_isLock_16 zf_Parser_isLock_17
  rw [yn_8, show (12 : Int32) = nI 12 from rfl]
  by_cases q8 : x < 8
  · rw [if_pos (nI_lt q8 (by omega)), if_neg (by omega)]
    rfl
  · rw [if_neg (nI_nlt (by omega) (by omega))]
    by_cases q9 : x < 12
    · rw [if_neg (nI_ge q9 (by omega)), if_pos (by omega)]
      rfl
    · rw [if_pos (nI_le (by omega) (by omega)), if_neg (by omega)]
      rfl
theorem yy_isk2 (σ : zs_S) : zf_Parser_isLock F (-2) σ = some (0, σ) := by
  unfold zf_Parser_isLock zf_Parser_isLock_16 zf_Parser_isLock_17
  rw [if_pos (by decide)]
  rfl
/-- the end of an assignment in the class: what its text does behind the name -/
theorem yk_asg {f : Int32} {σ : zs_S} {s d : Nat} (h : yK p f σ) (hp : yPP p) (hs : s < 50) (hd : d < 100) : ∃ σ', (zq_c (zf_Parser_isVariable F (nI d) σ) fun r26 σ25 => if r26 = 0 then zf_Parser_readAssignment_72 F σ25 else zq_v (zs_wi σ25 (p + 5 + s) 8 ((zs_i σ25 (p + 5 + s) 8) ||| (1 <<< (nI d &&& 31)))) fun σ28 => zf_Parser_readAssignment_72 F σ28) = some σ' ∧ yK p f σ' ∧ ygC p σ σ' := by
  have hp2 := yPP_b hp
  rw [yy_isv hd, yq_c]
  unfold zf_Parser_readAssignment_72
  by_cases h8 : d < 8
  · rw [if_pos h8, if_neg y01, yq_v]
    have hk : yK p f (zs_wi σ (p + 5 + s) 8 ((zs_i σ (p + 5 + s) 8) ||| (1 <<< (nI d &&& 31)))) := yK_F h (fun k => yt_in _ _ (by omega)) (fun k => rfl)
    rw [yy_kexp hk (by decide) (by decide)]
    exact ⟨_, rfl, hk, ⟨fun o k x y => ⟨yt_in _ _ (by omega), rfl, rfl⟩, rfl, rfl⟩⟩
  · rw [if_neg h8, if_pos y00, yy_kexp h (by decide) (by decide)]
    exact ⟨_, rfl, h, ygC_r σ⟩
end YKB
