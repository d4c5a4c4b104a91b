/-! conditions: up to their block -/
section YCA
variable {F n m p q t V L T : Nat} {v : Nat → Nat}
/-- the class's text from the block on, and behind the first block -/
def ycT (kS : Int32 → Int32 → zs_S → Option zs_S) (F o K : Nat) (n0 d : Int32) (σ22 : zs_S) : Option zs_S :=
  zq_g (decide (K < 1200)) <|
  if K = 1107 then (
    zq_q (zs_r σ22 7 6) fun q24 =>
    zq_g (decide (q24 < 1200)) <|
    if q24 = 1016 then (
      zq_d (zf_Parser_advance F σ22) fun σ26 =>
      zq_c (zf_Parser_readBlock kS F n0 d σ26) fun r30 σ29 =>
      zq_v (zs_wi σ29 o 6 r30) fun σ32 =>
      zf_Parser_readCondition_82 kS F σ32
    ) else (
      zf_Parser_readCondition_82 kS F σ22
    )
  ) else (
    zf_Parser_readCondition_82 kS F σ22
  )
def ycB (kS : Int32 → Int32 → zs_S → Option zs_S) (F o K : Nat) (n0 d : Int32) (σ16 : zs_S) : Option zs_S :=
  zq_c (zf_Parser_readBlock kS F n0 d σ16) fun r20 σ19 =>
  zq_v (zs_wi σ19 o 5 r20) fun σ22 => ycT kS F o K n0 d σ22
def ymB (kS : Int32 → Int32 → zs_S → Option (Int32 × zs_S)) (F : Nat) (x1 x2 : Int32) (σ123 : zs_S) : Option (Int32 × zs_S) :=
        zq_v (zs_i σ123 1 16) fun v126 =>
        zq_v (zs_wi σ123 1 16 ((zs_i σ123 1 16) + 1)) fun σ127 =>
        zq_g (zq_b (zs_i σ123 1 16) 200) <|
        zq_v (zs_wi σ127 57 ((zs_i σ123 1 16).toNatClampNeg) ((3 * x1) + 1)) fun σ129 =>
        zq_c (zf_M_block kS F x2 σ129) fun r131 σ130 =>
        if r131 = 0 then (
          some (0, σ130)
        ) else (
          zq_q (zs_r σ130 1 12) fun q133 =>
          zq_g (zq_k 1 q133 19) <|
          zq_q (zd_rf 1 q133 7) fun q135 =>
          zq_g (zq_k 1 q135 0) <|
          zq_g (zq_b x1 (zd_sh 1 q135).2) <|
          if (zs_i σ130 q135 (x1).toNatClampNeg) = 8 then (
            zq_d (zf_M_lead F v126 x1 σ130) fun σ138 =>
            zf_M_statement_131 kS F x1 x2 σ138
          ) else (
            zf_M_statement_131 kS F x1 x2 σ130
          )
        )
theorem yk_cB {f : Int32} {N s K : Nat} {σ : zs_S} {n0 d : Int32} (h : yK p f σ) (hp : yPP p) (hF : 0 < F) (hs : s < 50) (hK : K < 1200) : ∃ σ', ycB (zf_Parser_readStatements F (N + 1)) F (p + 5 + s) K n0 d σ = some σ' ∧ yK p f σ' ∧ ygC p σ σ' := by
  have hp2 := yPP_b hp
  have hk : yK p f (zs_wi σ (p + 5 + s) 5 (-2)) := yK_F h (fun k => yt_in _ _ (by omega)) (fun k => rfl)
  refine ⟨zs_wi σ (p + 5 + s) 5 (-2), ?_, hk, ⟨fun o k x y => ⟨yt_in _ _ (by omega), rfl, rfl⟩, rfl, rfl⟩⟩
  unfold ycB ycT zf_Parser_readCondition_82
  rw [yk_block (d := 0) h hp hF, yq_c, yq_v, yn_12 hK, yq_g, hk.2.2.2.2, zq_qr (by decide), yn_12 (by decide), yq_g]
  by_cases h7 : K = 1107
  · rw [if_pos h7, if_neg (by decide)]
  · rw [if_neg h7]
theorem ykd_head {i s a c e fr kc N : Nat} {par x2 : Int32} {σ τ : zs_S} {kS : Int32 → Int32 → zs_S → Option (Int32 × zs_S)} (h : yPr F v n m p q t V L T i s a c e fr par σ τ) (hkc : (yx_c v n i = 1015 ∧ kc = 7) ∨ (yx_c v n i = 1017 ∧ kc = 8)) : (∃ σ' τ', zf_Parser_readCondition (zf_Parser_readStatements F (N + 1)) F (p + 5 + s) (1100 + kc) x2 σ = some σ' ∧ zf_M_statement kS F (nI s) x2 τ = some (0, τ') ∧ yKF p q σ τ σ' τ') ∨ (∃ i1 a1 c1 e1 l σ1 τ1, zf_Parser_readCondition (zf_Parser_readStatements F (N + 1)) F (p + 5 + s) (1100 + kc) x2 σ = ycB (zf_Parser_readStatements F (N + 1)) F (p + 5 + s) (1100 + kc) (nI s) x2 σ1 ∧ zf_M_statement kS F (nI s) x2 τ = ymB kS F (nI s) x2 τ1 ∧ yN F v n m p q t V L T i1 (s + 1) a1 c1 e1 σ1 τ1 ∧ (i < i1 ∧ c ≤ c1 ∧ e ≤ e1) ∧ (yfS p s c σ σ1 ∧ yfT q s e τ τ1) ∧ (zs_i τ1 1 16 = nI fr ∧ (∀ o k, o = 57 ∨ o = q + 13 ∨ o = q + 9 → zs_i τ1 o k = zs_i τ o k)) ∧ (∀ k, k = 1 ∨ k = 5 ∨ k = 6 ∨ k = 7 → zs_i σ1 (p + 5 + s) k = zs_i σ (p + 5 + s) k) ∧ zs_r σ1 (p + 5 + s) 0 = 1100 + kc ∧ zs_i τ1 (q + 10) s = nI kc ∧ yEx σ1 τ1 p q t V T s c c1 e e1 l ∧ zs_i σ1 (p + 5 + s) 8 = l.foldl yu1 0) := by
  have h0 := h
  obtain ⟨hN, ⟨he, hfr, hs, hF⟩, hop, o1, o5, o6, o7, o8⟩ := h
  obtain ⟨k1, k2, k3, k4, hA, hp2, hq2⟩ := yN_tok hN
  have hp := hN.1.2.1
  have hq := hN.1.2.2
  have hi := yB_lt hN.1.1 k4 (by omega) (by omega)
  have hN1 : yN F v n m p q t V L T i (s + 1) a c e (zs_wr σ (p + 5 + s) 0 (1100 + kc)) (zs_wi τ (q + 10) s (nI kc)) := yN_o hN (fun o k x => rfl) (fun o k x => yt_rn _ _ (by omega)) (fun o k => rfl) (fun o k x y z => yt_in _ _ (by omega)) (fun o k => rfl)
  obtain ⟨τ1, e1, e2, hN2, f1, f2, -⟩ := yN_st hN1 hi
  have fS : yfS p s c σ (zs_wr σ (p + 5 + s) 0 (1100 + kc)) := ⟨fun o k _ _ _ _ _ => rfl, fun o k _ _ _ => yt_rn _ _ (by omega), fun o k => rfl⟩
  have fT : yfT q s e τ (zs_wi τ (q + 10) s (nI kc)) := ⟨fun o k _ _ _ _ _ => yt_in _ _ (by omega), fun o k => rfl⟩
  have ec : zf_Parser_readCondition (zf_Parser_readStatements F (N + 1)) F (p + 5 + s) (1100 + kc) x2 σ = zq_d (zf_Parser_expect F 1021 (yadv v n i (zs_wr σ (p + 5 + s) 0 (1100 + kc)))) fun σ10 => zq_d (zf_Parser_readExpression F (p + 5 + s) σ10) fun σ13 => zq_d (zf_Parser_expect F 1022 σ13) fun σ16 => ycB (zf_Parser_readStatements F (N + 1)) F (p + 5 + s) (1100 + kc) (nI s) x2 σ16 := by
    unfold zf_Parser_readCondition ycB ycT
    rw [hN.2.1.2.1, zq_qr (by omega), yp_k hp, yq_g, hN.2.2.2.1.1, nI_pred, yq_v, yp_sk hp hs, yq_g, yn_n (by omega), yq_g, yq_v, e1, yq_s]
  have e42 : zf_M_statement kS F (nI s) x2 τ = zq_c (zf_M_take F 1319 τ1) fun r118 σ117 => if r118 = 0 then zf_M_statement_73 kS F σ117 else zq_c (zf_M_whole F (nI s) σ117) fun r121 σ120 => if r121 = 0 then zf_M_statement_73 kS F σ120 else zq_c (zf_M_take F 1320 σ120) fun r124 σ123 => if r124 = 0 then zf_M_statement_73 kS F σ123 else ymB kS F (nI s) x2 σ123 := by
    have e18 : zf_M_statement kS F (nI s) x2 τ = zf_M_statement_18 kS F (nI s) x2 τ := by
      unfold zf_M_statement
      rw [yi_1310 hA, yq_c]
      rcases hkc with ⟨hh, -⟩ | ⟨hh, -⟩
      · rw [if_pos (show (yx_tk v n (yx_ps v n i)).1 = 1015 from hh), if_neg y01]
      · rw [if_neg (ytk_ne hh (by decide)), if_pos y00, yi_1312 hA, yq_c, if_pos (show (yx_tk v n (yx_ps v n i)).1 = 1017 from hh), if_neg y01]
    have e42 : zf_M_statement_18 kS F (nI s) x2 τ = zf_M_statement_42 kS F (nI s) x2 (nI kc) (nI s) (q + 10) τ := by
      unfold zf_M_statement_18
      rw [hN.2.2.1.2.2.1, zq_qr (by omega), yv_k hq, yq_g, yv_r7 hq, zq_qr (by omega), yi_1310 hA, yq_c]
      rcases hkc with ⟨hh, hk⟩ | ⟨hh, hk⟩
      · rw [if_pos (show (yx_tk v n (yx_ps v n i)).1 = 1015 from hh), if_neg y01, hk]
        rfl
      · rw [if_neg (ytk_ne hh (by decide)), if_pos y00, hk]
        rfl
    rw [e18, e42]
    unfold zf_M_statement_42 ymB
    rw [yv_k10 hq, yq_g, yv_z10 hq, yn_b hs (by decide), yq_g, nI_clamp (by omega), yq_v, e2, yq_s]
  have m73 : ∀ τ', zf_M_statement_73 kS F τ' = some (0, τ') := fun τ' => rfl
  rcases yN_ex hN2 (yi_1319 hN2.2.2.1.1) (by decide) (by decide) (by decide) with ⟨-, τ2, x1, x2', x3, x4, x5, x6⟩ | ⟨x1, x2', x3⟩
  · obtain ⟨σ2, ⟨r, τ3⟩, e3, e4, ⟨w1, w2⟩, hw⟩ := yy_whole (s0 := s) hF x3 hs (by omega)
    have gS : yfS p s c σ σ2 := yfS_t fS (yfS_t (yfS_C f1) (yfS_t (yfS_C x4) (yfS_W hs w1) (Nat.le_refl s) (Nat.le_refl c)) (Nat.le_refl s) (Nat.le_refl c)) (Nat.le_refl s) (Nat.le_refl c)
    have gT : yfT q s e τ τ3 := yfT_t fT (yfT_t (yfT_M (yfM_L f2)) (yfT_t (yfT_M (yfM_L x5)) (yfT_V w2) (Nat.le_refl s) (Nat.le_refl e)) (Nat.le_refl s) (Nat.le_refl e)) (Nat.le_refl s) (Nat.le_refl e)
    rw [x1, yq_s, e3, yq_s] at ec
    rw [x2', yq_c, if_neg y01, e4, yq_c] at e42
    rcases hw with ⟨hr, i', a', c', e', l, g1, g2, g3, g4⟩ | ⟨hr, f, c', g1, g2, g3, -⟩
    · have hr : r = 1 := hr
      subst hr
      have g2 : yN F v n m p q t V L T i' (s + 1) a' c' e' σ2 τ3 := g2
      have g3 : yEx σ2 τ3 p q t V T s c c' e e' l := g3
      have w2 : yfV q e s τ2 τ3 := w2
      rw [if_neg y01] at e42
      rcases yN_ex g2 (yi_1320 g2.2.2.1.1) (by decide) (by decide) (by decide) with ⟨-, τ4, z1, z2, z3, z4, z5, z6⟩ | ⟨z1, z2, z3⟩
      · rw [z1, yq_s] at ec
        rw [z2, yq_c, if_neg y01] at e42
        refine Or.inr ⟨i' + 1, a', c', e', l, yadv v n i' σ2, τ4, ec, e42, z3, by omega, ⟨yfS_t gS (yfS_C z4) (Nat.le_refl s) (by omega), yfT_t gT (yfT_M (yfM_L (e := e') z5)) (Nat.le_refl s) (by omega)⟩, ⟨?_, fun o k ho => ?_⟩, fun k hk => ?_, ?_, ?_, ?_, ?_⟩
        · rw [z5.1 _ _ (by omega), w2.1 _ _ (by omega) (by omega) (by omega) (by omega), x5.1 _ _ (by omega), f2.1 _ _ (by omega), yt_in _ _ (by omega), hop]
        · rw [z5.1 _ _ (by omega), w2.1 _ _ (by omega) (by omega) (by omega) (by omega), x5.1 _ _ (by omega), f2.1 _ _ (by omega), yt_in _ _ (by omega)]
        · rw [z4.1 _ _ (by omega) (by omega) (by omega), w1.1 _ _ (by omega) (by omega) (by omega) (by omega), x4.1 _ _ (by omega) (by omega) (by omega), f1.1 _ _ (by omega) (by omega) (by omega), yt_ir]
        · rw [z4.2.1 _ _ (by omega) (by omega), w1.2.1 _ _ (by omega) (by omega), x4.2.1 _ _ (by omega) (by omega), f1.2.1 _ _ (by omega) (by omega), yt_re]
        · rw [z5.1 _ _ (by omega), w2.1 _ _ (by omega) (by omega) (by omega) (by omega), x5.1 _ _ (by omega), f2.1 _ _ (by omega), yt_ie]
        · exact yEx_F g3 (Nat.le_refl _) (Nat.le_refl _) (fun k hk => by rw [z4.1 _ _ (by omega) (by omega) (by omega)]) (fun k hk => ⟨z4.2.1 _ _ (by omega) (by omega), z4.1 _ _ (by omega) (by omega) (by omega)⟩) (z5.1 _ _ (by omega)) (fun k hk => z5.1 _ _ (by omega))
        · rw [z4.1 _ _ (by omega) (by omega) (by omega)]
          exact g4
      · rw [z1, yq_s] at ec
        rw [z2, yq_c, if_pos y00, m73] at e42
        obtain ⟨q1, q2, f, q3, q4, q5⟩ := yKF_t (ygC_S hp gS) (ygM_T gT) (yKF_X hp z3)
        obtain ⟨σ4, j4, j5, j6⟩ := yk_cB (F := F) (N := N) (s := s) (K := 1100 + kc) (n0 := nI s) (d := x2) q4 hp (by omega) hs (by omega)
        exact Or.inl ⟨σ4, _, ec.trans j4, e42, ygC_t q1 j6, q2, f, q3, j5, q5⟩
    · have hr : r = 0 := hr
      subst hr
      rw [if_pos y00, m73] at e42
      rw [yy_kexp g1 (by decide) (by decide), yq_s] at ec
      obtain ⟨σ4, j4, j5, j6⟩ := yk_cB (F := F) (N := N) (s := s) (K := 1100 + kc) (n0 := nI s) (d := x2) g1 hp (by omega) hs (by omega)
      exact Or.inl ⟨σ4, _, ec.trans j4, e42, ygC_t (ygC_S hp gS) j6, ygM_T gT, f, g3, j5, g2⟩
  · rw [x1, yq_s] at ec
    rw [x2', yq_c, if_pos y00, m73] at e42
    obtain ⟨q1, q2, f, q3, q4, q5⟩ := yKF_t (ygC_t (ygC_S hp fS) (ygC_C f1 hp)) (ygM_t (ygM_T fT) (ygM_L f2)) (yKF_X hp x3)
    obtain ⟨σ3, j1, j2, j3⟩ := yk_expr (F := F) (s0 := s) q4 hp (by omega) hs
    rw [j1, yq_s, yy_kexp j2 (by decide) (by decide), yq_s] at ec
    obtain ⟨σ4, j4, j5, j6⟩ := yk_cB (F := F) (N := N) (s := s) (K := 1100 + kc) (n0 := nI s) (d := x2) j2 hp (by omega) hs (by omega)
    exact Or.inl ⟨σ4, _, ec.trans j4, e42, ygC_t q1 (ygC_t j3 j6), q2, f, q3, j5, q5⟩
end YCA
