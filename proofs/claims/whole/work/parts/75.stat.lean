/-! rows of statements -/
section YRS
variable {F n m p q t V L T : Nat} {v : Nat → Nat}
theorem yk_loop {f : Int32} {N : Nat} {σ : zs_S} {x1 x2 x3 : Int32} {kS : Int32 → Int32 → zs_S → Option zs_S} (h : yK p f σ) (hN : 0 < N) : zf_Parser_readStatements_b_2 kS F N x1 x2 x3 σ = some σ := by
  obtain ⟨N, rfl⟩ : ∃ q, N = q + 1 := ⟨N - 1, by omega⟩
  rw [zf_Parser_readStatements_b_2]
  by_cases h5 : 50 < x3
  · rw [if_pos h5]
  · rw [if_neg h5, if_neg (by rw [h.2.2.1]; exact h.2.2.2.1)]
    rfl
/-- a statement has begun, in the class -/
def ybg (p s : Nat) (par : Int32) (σ : zs_S) : zs_S := zs_wi (zs_wi (zs_wi (zs_wi (zs_wi (zs_wi (zs_wi (zs_wi (zs_wi (zs_wr σ (p + 5 + s) 0 1109) (p + 5 + s) 1 par) (p + 5 + s) 2 0) (p + 5 + s) 3 0) (p + 5 + s) 4 0) (p + 5 + s) 5 (-2)) (p + 5 + s) 6 (-2)) (p + 5 + s) 7 (-2)) (p + 5 + s) 8 0) p 3 (nI (s + 1))
theorem ybg_i {s : Nat} {par : Int32} {σ : zs_S} {o k : Nat} (h : ¬ (o = p ∧ k = 3)) (h2 : ¬ o = p + 5 + s) : zs_i (ybg p s par σ) o k = zs_i σ o k := by
  unfold ybg
  simp (disch := omega) only [yt_in, yt_ir]
theorem ybg_r {s : Nat} {par : Int32} {σ : zs_S} {o k : Nat} (h2 : ¬ o = p + 5 + s) : zs_r (ybg p s par σ) o k = zs_r σ o k := by
  unfold ybg
  simp (disch := omega) only [yt_ri, yt_rn]
def ydsp (kS : Int32 → Int32 → zs_S → Option zs_S) (F q10 : Nat) (x2 v24 : Int32) (σ19 : zs_S) : Option zs_S :=
    if v24 = 11 then (
      zq_d (zf_Parser_readAssignment F q10 σ19) fun σ25 =>
      zf_Parser_readStatement_208 kS F q10 σ25
    ) else (
    if v24 = 12 then (
      zq_d (zf_Parser_readLockUse F q10 1101 σ19) fun σ28 =>
      zf_Parser_readStatement_208 kS F q10 σ28
    ) else (
    if v24 = 13 then (
      zq_d (zf_Parser_readLockUse F q10 1102 σ19) fun σ31 =>
      zf_Parser_readStatement_208 kS F q10 σ31
    ) else (
    if v24 = 14 then (
      zq_d (zf_Parser_readLockUse F q10 1103 σ19) fun σ34 =>
      zf_Parser_readStatement_208 kS F q10 σ34
    ) else (
    if v24 = 15 then (
      zq_d (zf_Parser_readLockUse F q10 1104 σ19) fun σ37 =>
      zf_Parser_readStatement_208 kS F q10 σ37
    ) else (
    if v24 = 16 then (
      zq_d (zf_Parser_readAssert F q10 σ19) fun σ40 =>
      zf_Parser_readStatement_208 kS F q10 σ40
    ) else (
    if v24 = 17 then (
      zq_d (zf_Parser_readStop F q10 σ19) fun σ43 =>
      zf_Parser_readStatement_208 kS F q10 σ43
    ) else (
    if v24 = 18 then (
      zq_d (zf_Parser_readCondition kS F q10 1107 x2 σ19) fun σ46 =>
      zf_Parser_readStatement_208 kS F q10 σ46
    ) else (
    if v24 = 19 then (
      zq_d (zf_Parser_readCondition kS F q10 1108 x2 σ19) fun σ49 =>
      zf_Parser_readStatement_208 kS F q10 σ49
    ) else (
      zq_d (zf_Parser_fail F σ19) fun σ52 =>
      zf_Parser_readStatement_208 kS F q10 σ52
    )))))))))
theorem yord {g : Nat} (h : 1000 ≤ g) (h2 : g < 1037) : zq_en g = true ∧ zd_ord g = nI (g - 1000) := by
  have : ∀ x, x < 37 → zq_en (1000 + x) = true ∧ zd_ord (1000 + x) = nI x := by decide +kernel
  have := this (g - 1000) (by omega)
  rw [show 1000 + (g - 1000) = g by omega] at this
  exact this
theorem yy_disp {i s a c e : Nat} {par x2 : Int32} {σ τ : zs_S} {kS : Int32 → Int32 → zs_S → Option zs_S} (h : yN F v n m p q t V L T i s a c e σ τ) (hs : s < 50) : zf_Parser_readStatement kS F par x2 σ = ydsp kS F (p + 5 + s) x2 (zd_mt.getD (yx_c v n i - 1000) 0) (ybg p s par σ) := by
  obtain ⟨k1, k2, k3, k4, hA, hp2, hq2⟩ := yN_tok h
  have hp := h.1.2.1
  have hsz := h.2.2.2.1.1
  have h77 := h.2.1.2.1
  have h50 : ¬ nI s = (50 : Int32) := fun e => by
    have := (nI_eq (a := s) (b := 50) (by omega) (by omega)).mp e
    omega
  have hb : zf_Statement_begin F (p + 5 + s) par σ = some (zs_wi (zs_wi (zs_wi (zs_wi (zs_wi (zs_wi (zs_wi (zs_wi (zs_wr σ (p + 5 + s) 0 1109) (p + 5 + s) 1 par) (p + 5 + s) 2 0) (p + 5 + s) 3 0) (p + 5 + s) 4 0) (p + 5 + s) 5 (-2)) (p + 5 + s) 6 (-2)) (p + 5 + s) 7 (-2)) (p + 5 + s) 8 0) := by
    unfold zf_Statement_begin
    rw [yp_sk hp hs, yq_g]
    simp only [yq_v]
  have h773 : zs_r (zs_wi (zs_wi (zs_wi (zs_wi (zs_wi (zs_wi (zs_wi (zs_wi (zs_wr σ (p + 5 + s) 0 1109) (p + 5 + s) 1 par) (p + 5 + s) 2 0) (p + 5 + s) 3 0) (p + 5 + s) 4 0) (p + 5 + s) 5 (-2)) (p + 5 + s) 6 (-2)) (p + 5 + s) 7 (-2)) (p + 5 + s) 8 0) 7 7 = p := by
    simp (disch := omega) only [yt_ri, yt_rn]
    exact h77
  have hsz3 : zs_i (zs_wi (zs_wi (zs_wi (zs_wi (zs_wi (zs_wi (zs_wi (zs_wi (zs_wr σ (p + 5 + s) 0 1109) (p + 5 + s) 1 par) (p + 5 + s) 2 0) (p + 5 + s) 3 0) (p + 5 + s) 4 0) (p + 5 + s) 5 (-2)) (p + 5 + s) 6 (-2)) (p + 5 + s) 7 (-2)) (p + 5 + s) 8 0) p 3 = nI s := by
    simp (disch := omega) only [yt_in, yt_ir]
    exact hsz
  have h76 : zs_r (ybg p s par σ) 7 6 = yx_c v n i := (ybg_r (by omega)).trans k1
  unfold zf_Parser_readStatement ydsp zf_Enum_ordinal0
  rw [h77, zq_qr (by omega), yp_k hp, yq_g, hsz, if_neg h50, zq_qr (by omega), yp_k hp, yq_g, yp_r7 hp, zq_qr (by omega), zq_qr (by omega), yp_k hp, yq_g, yp_k4 hp, yq_g, hsz, yp_z4 hp, yn_b hs (by decide), yq_g, nI_clamp (by omega), yp_s hp hs, zq_qr (by omega), yp_sk hp hs, yq_g, hb, yq_s, h773, zq_qr (by omega), yp_k hp, yq_g, hsz3, nI_1, yq_v]
  show zq_q (zs_r (ybg p s par σ) 7 6) _ = _
  rw [h76, zq_qr (by omega), yn_t k2 k3, yq_g, (yord k2 k3).1, yq_g, (yord k2 k3).2, yq_c, yn_b (show yx_c v n i - 1000 < 37 by omega) (by decide), yq_g, nI_clamp (by omega), yq_v]
  rfl
theorem yy_follow {i s : Nat} {a c e s0 : Nat} {σ τ : zs_S} {kS : Int32 → Int32 → zs_S → Option zs_S} (h : yN F v n m p q t V L T i s a c e σ τ) (hs : s0 < 50) : zf_Parser_readStatement_208 kS F (p + 5 + s0) σ = some (zs_wi σ (p + 5 + s0) 7 (if yx_c v n i = 1020 then -2 else nI s)) := by
  obtain ⟨k1, k2, k3, k4, hA, hp2, hq2⟩ := yN_tok h
  have hp := h.1.2.1
  unfold zf_Parser_readStatement_208 zf_Parser_readStatement_231
  rw [k1, zq_qr (by omega), yn_12 (by omega), yq_g, h.2.1.2.1, zq_qr (by omega), yp_k hp, yq_g, h.2.2.2.1.1, yp_sk hp hs, yq_g, yq_g, yq_v, yq_v]
  by_cases hc : yx_c v n i = 1020
  · rw [if_pos hc, if_pos hc]
  · rw [if_neg hc, if_neg hc]
def yst (g : Nat) : Prop := g = 1002 ∨ g = 1009 ∨ g = 1010 ∨ g = 1011 ∨ g = 1012 ∨ g = 1014 ∨ g = 1015 ∨ g = 1017 ∨ g = 1018
theorem yy_casc {i s M : Nat} {a c e : Nat} {x1 x2 : Int32} {σ τ : zs_S} {kS : Int32 → Int32 → zs_S → Option (Int32 × zs_S)} (h : yN F v n m p q t V L T i s a c e σ τ) (hc : yx_c v n i ≠ 1020) : (s = 50 ∨ ¬ yst (yx_c v n i) → zf_M_statements_b_0 kS F (M + 1) x1 x2 τ = some (0, zs_wi τ 1 11 (nI (yx_ps v n i)))) ∧ (s < 50 → yst (yx_c v n i) → zf_M_statements_b_0 kS F (M + 1) x1 x2 τ = zq_d (zf_M_lead F x1 (nI s) (zs_wi τ q 6 (nI (s + 1)))) fun σ45 => zq_c (zf_M_statement kS F (nI s) x2 σ45) fun r49 σ48 => if r49 = 0 then some (0, σ48) else zf_M_statements_b_0 kS F M x1 x2 σ48) := by
  obtain ⟨k1, k2, k3, k4, hA, hp2, hq2⟩ := yN_tok h
  have hq := h.1.2.2
  obtain ⟨fl1, fl2, fl3⟩ := yN_fl h
  have hc' : ¬ (yx_tk v n (yx_ps v n i)).1 = 1020 := hc
  have hsz := h.2.2.2.1.2.1
  have hs50 := h.2.2.2.1.2.2
  have hkd : zs_i τ 1 7 = yx_kd (yx_c v n i) := hA.2.1.2.2.2.1
  have b28 : zf_M_statements_b_28 kS F τ = some (0, zs_wi τ 1 11 (nI (yx_ps v n i))) := by
    unfold zf_M_statements_b_28
    rw [fl2, yq_c, yz_0, yq_g]
  have s50 : (nI s = (50 : Int32)) = (s = 50) := yn_eq (a := s) (b := 50) (by omega) (by omega)
  constructor
  · intro hb
    rw [zf_M_statements_b_0, yi_1318 hA, yq_c, if_neg hc', if_pos y00, h.2.2.1.2.2.1, zq_qr (by omega), yv_k hq, yq_g, hsz]
    by_cases h5 : s = 50
    · rw [if_pos (s50.mpr h5), b28]
    · rw [if_neg (fun e => h5 (s50.mp e))]
      have hb : ¬ yst (yx_c v n i) := by
        rcases hb with hb | hb
        · exact absurd hb h5
        · exact hb
      by_cases h0 : zs_i τ 1 7 = 0
      · rw [if_pos h0, b28]
      · have hn : ∀ g, yst g → ¬ (yx_tk v n (yx_ps v n i)).1 = g := fun g hg e => hb (by rw [show yx_c v n i = g from e]; exact hg)
        unfold zf_M_statements_b_125
        rw [if_neg h0, zq_qr (by omega), yv_k hq, yq_g, hsz, yq_v, yy_name hA, yq_c, if_neg (hn 1002 (by unfold yst; omega)), if_pos y00, yi_1304 hA, yq_c, if_neg (hn 1009 (by unfold yst; omega)), if_pos y00, yi_1305 hA, yq_c, if_neg (hn 1010 (by unfold yst; omega)), if_pos y00, yi_1306 hA, yq_c, if_neg (hn 1011 (by unfold yst; omega)), if_pos y00, yi_1307 hA, yq_c, if_neg (hn 1012 (by unfold yst; omega)), if_pos y00, yi_1309 hA, yq_c, if_neg (hn 1014 (by unfold yst; omega)), if_pos y00, yi_1310 hA, yq_c, if_neg (hn 1015 (by unfold yst; omega)), if_pos y00, yi_1312 hA, yq_c, if_neg (hn 1017 (by unfold yst; omega)), if_pos y00, yi_1313 hA, yq_c, if_neg (hn 1018 (by unfold yst; omega)), if_pos y00, if_pos y00, fl2, yq_c, yz_0, yq_g]
  · intro h5 hb
    have h0 : ¬ zs_i τ 1 7 = 0 := by
      rw [hkd]
      unfold yst at hb
      rcases hb with hb | hb | hb | hb | hb | hb | hb | hb | hb <;> rw [hb] <;> decide
    have e125 : zf_M_statements_b_125 kS F (zf_M_statements_b_0 kS F M) x1 x2 (nI s) 1 τ = zq_d (zf_M_lead F x1 (nI s) (zs_wi τ q 6 (nI (s + 1)))) fun σ45 => zq_c (zf_M_statement kS F (nI s) x2 σ45) fun r49 σ48 => if r49 = 0 then some (0, σ48) else zf_M_statements_b_0 kS F M x1 x2 σ48 := by
      unfold zf_M_statements_b_125
      rw [if_neg y01, h.2.2.1.2.2.1, zq_qr (by omega), yv_k hq, yq_g, hsz, nI_1, yq_v]
    rw [zf_M_statements_b_0, yi_1318 hA, yq_c, if_neg hc', if_pos y00, h.2.2.1.2.2.1, zq_qr (by omega), yv_k hq, yq_g, hsz, if_neg (fun e => by have := s50.mp e; omega), if_neg h0, zq_qr (by omega), yv_k hq, yq_g, hsz, yq_v]
    unfold zf_M_statements_b_120
    unfold yst at hb
    rcases hb with hb | hb | hb | hb | hb | hb | hb | hb | hb
    · rw [yy_name hA, yq_c, if_pos (show (yx_tk v n (yx_ps v n i)).1 = 1002 from hb), if_neg y01, e125]
    · rw [yy_name hA, yq_c, if_neg (ytk_ne hb (by decide)), if_pos y00, yi_1304 hA, yq_c, if_pos (show (yx_tk v n (yx_ps v n i)).1 = 1009 from hb), if_neg y01, e125]
    · rw [yy_name hA, yq_c, if_neg (ytk_ne hb (by decide)), if_pos y00, yi_1304 hA, yq_c, if_neg (ytk_ne hb (by decide)), if_pos y00, yi_1305 hA, yq_c, if_pos (show (yx_tk v n (yx_ps v n i)).1 = 1010 from hb), if_neg y01, e125]
    · rw [yy_name hA, yq_c, if_neg (ytk_ne hb (by decide)), if_pos y00, yi_1304 hA, yq_c, if_neg (ytk_ne hb (by decide)), if_pos y00, yi_1305 hA, yq_c, if_neg (ytk_ne hb (by decide)), if_pos y00, yi_1306 hA, yq_c, if_pos (show (yx_tk v n (yx_ps v n i)).1 = 1011 from hb), if_neg y01, e125]
    · rw [yy_name hA, yq_c, if_neg (ytk_ne hb (by decide)), if_pos y00, yi_1304 hA, yq_c, if_neg (ytk_ne hb (by decide)), if_pos y00, yi_1305 hA, yq_c, if_neg (ytk_ne hb (by decide)), if_pos y00, yi_1306 hA, yq_c, if_neg (ytk_ne hb (by decide)), if_pos y00, yi_1307 hA, yq_c, if_pos (show (yx_tk v n (yx_ps v n i)).1 = 1012 from hb), if_neg y01, e125]
    · rw [yy_name hA, yq_c, if_neg (ytk_ne hb (by decide)), if_pos y00, yi_1304 hA, yq_c, if_neg (ytk_ne hb (by decide)), if_pos y00, yi_1305 hA, yq_c, if_neg (ytk_ne hb (by decide)), if_pos y00, yi_1306 hA, yq_c, if_neg (ytk_ne hb (by decide)), if_pos y00, yi_1307 hA, yq_c, if_neg (ytk_ne hb (by decide)), if_pos y00, yi_1309 hA, yq_c, if_pos (show (yx_tk v n (yx_ps v n i)).1 = 1014 from hb), if_neg y01, e125]
    · rw [yy_name hA, yq_c, if_neg (ytk_ne hb (by decide)), if_pos y00, yi_1304 hA, yq_c, if_neg (ytk_ne hb (by decide)), if_pos y00, yi_1305 hA, yq_c, if_neg (ytk_ne hb (by decide)), if_pos y00, yi_1306 hA, yq_c, if_neg (ytk_ne hb (by decide)), if_pos y00, yi_1307 hA, yq_c, if_neg (ytk_ne hb (by decide)), if_pos y00, yi_1309 hA, yq_c, if_neg (ytk_ne hb (by decide)), if_pos y00, yi_1310 hA, yq_c, if_pos (show (yx_tk v n (yx_ps v n i)).1 = 1015 from hb), if_neg y01, e125]
    · rw [yy_name hA, yq_c, if_neg (ytk_ne hb (by decide)), if_pos y00, yi_1304 hA, yq_c, if_neg (ytk_ne hb (by decide)), if_pos y00, yi_1305 hA, yq_c, if_neg (ytk_ne hb (by decide)), if_pos y00, yi_1306 hA, yq_c, if_neg (ytk_ne hb (by decide)), if_pos y00, yi_1307 hA, yq_c, if_neg (ytk_ne hb (by decide)), if_pos y00, yi_1309 hA, yq_c, if_neg (ytk_ne hb (by decide)), if_pos y00, yi_1310 hA, yq_c, if_neg (ytk_ne hb (by decide)), if_pos y00, yi_1312 hA, yq_c, if_pos (show (yx_tk v n (yx_ps v n i)).1 = 1017 from hb), if_neg y01, e125]
    · rw [yy_name hA, yq_c, if_neg (ytk_ne hb (by decide)), if_pos y00, yi_1304 hA, yq_c, if_neg (ytk_ne hb (by decide)), if_pos y00, yi_1305 hA, yq_c, if_neg (ytk_ne hb (by decide)), if_pos y00, yi_1306 hA, yq_c, if_neg (ytk_ne hb (by decide)), if_pos y00, yi_1307 hA, yq_c, if_neg (ytk_ne hb (by decide)), if_pos y00, yi_1309 hA, yq_c, if_neg (ytk_ne hb (by decide)), if_pos y00, yi_1310 hA, yq_c, if_neg (ytk_ne hb (by decide)), if_pos y00, yi_1312 hA, yq_c, if_neg (ytk_ne hb (by decide)), if_pos y00, yi_1313 hA, yq_c, if_pos (show (yx_tk v n (yx_ps v n i)).1 = 1018 from hb), if_neg y01, e125]
/-- one statement, whatever its kind, its follow not yet set -/
theorem ykd_all {i s a c e fr N d : Nat} {par : Int32} {σ τ : zs_S} {kR : Int32 → Int32 → zs_S → Option (Int32 × zs_S)} (h : yPr F v n m p q t V L T i s a c e fr par (ybg p s par σ) τ) (hb : yst (yx_c v n i)) (hd : d ≤ 6) (hK : d < 6 → yBR F v n m p q t V L T (d + 1) (zf_Parser_readStatements F (N + 1)) kR) : ∃ σ' r τ', zf_M_statement kR F (nI s) (nI d) τ = some (r, τ') ∧ ydsp (zf_Parser_readStatements F (N + 1)) F (p + 5 + s) (nI d) (zd_mt.getD (yx_c v n i - 1000) 0) (ybg p s par σ) = zf_Parser_readStatement_208 (zf_Parser_readStatements F (N + 1)) F (p + 5 + s) σ' ∧ yKD F v n m p q t V L T i s c e fr par (ybg p s par σ) τ r σ' τ' := by
  unfold yst at hb
  unfold ydsp
  rcases hb with hb | hb | hb | hb | hb | hb | hb | hb | hb
  · obtain ⟨σ', ⟨r, τ'⟩, e1, e2, hx⟩ := ykd_asg (kS := kR) (x2 := nI d) h hb
    refine ⟨σ', r, τ', e2, ?_, hx⟩
    rw [hb, show zd_mt.getD (1002 - 1000) 0 = 11 from by decide, if_pos rfl, e1, yq_s]
  · obtain ⟨σ', ⟨r, τ'⟩, e1, e2, hx⟩ := ykd_lock (kS := kR) (x2 := nI d) (k := 1) h hb (by decide) (by decide)
    refine ⟨σ', r, τ', e2, ?_, hx⟩
    rw [hb, show zd_mt.getD (1009 - 1000) 0 = 12 from by decide, if_neg (show ¬ (12 : Int32) = 11 by decide), if_pos rfl, e1, yq_s]
  · obtain ⟨σ', ⟨r, τ'⟩, e1, e2, hx⟩ := ykd_lock (kS := kR) (x2 := nI d) (k := 2) h hb (by decide) (by decide)
    refine ⟨σ', r, τ', e2, ?_, hx⟩
    rw [hb, show zd_mt.getD (1010 - 1000) 0 = 13 from by decide, if_neg (show ¬ (13 : Int32) = 11 by decide), if_neg (show ¬ (13 : Int32) = 12 by decide), if_pos rfl, e1, yq_s]
  · obtain ⟨σ', ⟨r, τ'⟩, e1, e2, hx⟩ := ykd_lock (kS := kR) (x2 := nI d) (k := 3) h hb (by decide) (by decide)
    refine ⟨σ', r, τ', e2, ?_, hx⟩
    rw [hb, show zd_mt.getD (1011 - 1000) 0 = 14 from by decide, if_neg (show ¬ (14 : Int32) = 11 by decide), if_neg (show ¬ (14 : Int32) = 12 by decide), if_neg (show ¬ (14 : Int32) = 13 by decide), if_pos rfl, e1, yq_s]
  · obtain ⟨σ', ⟨r, τ'⟩, e1, e2, hx⟩ := ykd_lock (kS := kR) (x2 := nI d) (k := 4) h hb (by decide) (by decide)
    refine ⟨σ', r, τ', e2, ?_, hx⟩
    rw [hb, show zd_mt.getD (1012 - 1000) 0 = 15 from by decide, if_neg (show ¬ (15 : Int32) = 11 by decide), if_neg (show ¬ (15 : Int32) = 12 by decide), if_neg (show ¬ (15 : Int32) = 13 by decide), if_neg (show ¬ (15 : Int32) = 14 by decide), if_pos rfl, e1, yq_s]
  · obtain ⟨σ', ⟨r, τ'⟩, e1, e2, hx⟩ := ykd_assert (kS := kR) (x2 := nI d) h hb
    refine ⟨σ', r, τ', e2, ?_, hx⟩
    rw [hb, show zd_mt.getD (1014 - 1000) 0 = 16 from by decide, if_neg (show ¬ (16 : Int32) = 11 by decide), if_neg (show ¬ (16 : Int32) = 12 by decide), if_neg (show ¬ (16 : Int32) = 13 by decide), if_neg (show ¬ (16 : Int32) = 14 by decide), if_neg (show ¬ (16 : Int32) = 15 by decide), if_pos rfl, e1, yq_s]
  · obtain ⟨σ', ⟨r, τ'⟩, e1, e2, hx⟩ := ykd_cond (kc := 7) h (Or.inl ⟨hb, rfl⟩) hd hK
    refine ⟨σ', r, τ', e2, ?_, hx⟩
    rw [hb, show zd_mt.getD (1015 - 1000) 0 = 18 from by decide, if_neg (show ¬ (18 : Int32) = 11 by decide), if_neg (show ¬ (18 : Int32) = 12 by decide), if_neg (show ¬ (18 : Int32) = 13 by decide), if_neg (show ¬ (18 : Int32) = 14 by decide), if_neg (show ¬ (18 : Int32) = 15 by decide), if_neg (show ¬ (18 : Int32) = 16 by decide), if_neg (show ¬ (18 : Int32) = 17 by decide), if_pos rfl, e1, yq_s]
  · obtain ⟨σ', ⟨r, τ'⟩, e1, e2, hx⟩ := ykd_cond (kc := 8) h (Or.inr ⟨hb, rfl⟩) hd hK
    refine ⟨σ', r, τ', e2, ?_, hx⟩
    rw [hb, show zd_mt.getD (1017 - 1000) 0 = 19 from by decide, if_neg (show ¬ (19 : Int32) = 11 by decide), if_neg (show ¬ (19 : Int32) = 12 by decide), if_neg (show ¬ (19 : Int32) = 13 by decide), if_neg (show ¬ (19 : Int32) = 14 by decide), if_neg (show ¬ (19 : Int32) = 15 by decide), if_neg (show ¬ (19 : Int32) = 16 by decide), if_neg (show ¬ (19 : Int32) = 17 by decide), if_neg (show ¬ (19 : Int32) = 18 by decide), if_pos rfl, e1, yq_s]
  · obtain ⟨σ', ⟨r, τ'⟩, e1, e2, hx⟩ := ykd_stop (kS := kR) (x2 := nI d) h hb
    refine ⟨σ', r, τ', e2, ?_, hx⟩
    rw [hb, show zd_mt.getD (1018 - 1000) 0 = 17 from by decide, if_neg (show ¬ (17 : Int32) = 11 by decide), if_neg (show ¬ (17 : Int32) = 12 by decide), if_neg (show ¬ (17 : Int32) = 13 by decide), if_neg (show ¬ (17 : Int32) = 14 by decide), if_neg (show ¬ (17 : Int32) = 15 by decide), if_neg (show ¬ (17 : Int32) = 16 by decide), if_pos rfl, e1, yq_s]
end YRS
