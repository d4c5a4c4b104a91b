/-! explorer: the loops over states -/
section YLQ
variable {F n m p q t V L T : Nat} {v : Nat → Nat}
def yfH (τ τ' : zs_S) : Prop := (∀ o k, ¬ (o = 1 ∧ (k = 23 ∨ k = 24 ∨ k = 29)) → ¬ (58 ≤ o ∧ o ≤ 66 ∧ o ≠ 62 ∧ o ≠ 64) → zs_i τ' o k = zs_i τ o k) ∧ (∀ o k, zs_r τ' o k = zs_r τ o k)
theorem yfH_r (τ : zs_S) : yfH τ τ := ⟨fun _ _ _ _ => rfl, fun _ _ => rfl⟩
theorem yfH_t {a b c : zs_S} (h : yfH a b) (g : yfH b c) : yfH a c := ⟨fun o k x y => (g.1 o k x y).trans (h.1 o k x y), fun o k => (g.2 o k).trans (h.2 o k)⟩
theorem yfH_G {τ τ' : zs_S} (h : yfG τ τ') : yfH τ τ' := ⟨fun o k w1 w2 => h.1 o k (by omega) (by omega) (by omega) (by omega), h.2⟩
theorem yfH_1 {k : Nat} {x : Int32} (τ : zs_S) (hk : k = 23 ∨ k = 24 ∨ k = 29) : yfH τ (zs_wi τ 1 k x) := ⟨fun o j w1 w2 => yt_in _ _ (by omega), fun _ _ => rfl⟩
theorem yPm_H {tt S : Nat} {B Tt kd tg : Nat → Nat} {wy : Nat → Nat → Int32} {ex : Nat → List (Nat × Int32)} {τ τ' : zs_S} (hq : yQQ q) (hpp : yPp V L tt S B Tt kd tg wy ex) (hf : yfH τ τ') (h : yPm τ q V L tt S B Tt kd tg wy ex) : yPm τ' q V L tt S B Tt kd tg wy ex := by
  have hq3 : q = 3 ∨ q = 30 := hq
  exact yPm_F hq hpp (fun o k w1 w2 => hf.1 o k (by omega) (by omega)) h
theorem yMx_29 {tt s t : Nat} {W : Nat × (Nat → Nat → Int32) × (Nat → Int32) × (Nat → Int32) × (Nat → Int32) × Nat × (Nat → Nat) × Bool} {C : Nat → Int32} {τ : zs_S} {t' : Nat} (h : yMx τ tt q W C s t) : yMx (zs_wi τ 1 29 (nI t')) tt q W C s t' := by
  obtain ⟨h1, h2, h3, h4, h5⟩ := h
  exact ⟨ymW_F (fun o k w => yt_in _ _ (by omega)) h1, fun j hj => (yt_in _ _ (by omega)).trans (h2 j hj), h3, (yt_in _ _ (by omega)).trans h4, yt_ie _ _ _ _⟩
theorem ym_thr {s tt S : Nat} {B Tt kd tg : Nat → Nat} {wy : Nat → Nat → Int32} {ex : Nat → List (Nat × Int32)} {C : Nat → Int32} {k189 : zs_S → Option (Int32 × zs_S)} (hq : yQQ q) (hF : 7000 < F) (hpp : yPp V L tt S B Tt kd tg wy ex) (hv : yRV tt B kd C) (hs8 : s < 800) : ∀ d j N (W : Nat × (Nat → Nat → Int32) × (Nat → Int32) × (Nat → Int32) × (Nat → Int32) × Nat × (Nat → Nat) × Bool) τ, j + d = tt → d < N → yPm τ q V L tt S B Tt kd tg wy ex → yMx τ tt q W C s j → yWV tt B kd W → s < W.1 → W.2.2.2.2.2.1 ≤ 4 * s + ycn (ygw tg C) j 0 tt → W.2.2.2.2.2.2.2 = false → ∃ τ', yfH τ τ' ∧ ((zf_M_check_239 F k189 N τ = k189 (zs_wi τ' 1 28 (nI (s + 1))) ∧ yMx τ' tt q (yth tt kd tg wy ex s C j d W) C s tt ∧ (yth tt kd tg wy ex s C j d W).2.2.2.2.2.2.2 = false) ∨ (zf_M_check_239 F k189 N τ = some (-3, zs_wi (zs_wi (zs_wi τ' 1 23 0) 1 24 0) 1 4 0) ∧ (yth tt kd tg wy ex s C j d W).2.2.2.2.2.2.2 = true)) := by
  have hq2 := yQQ_b hq
  have h4 : tt ≤ 4 := hpp.1.2.2.2.1
  intro d
  induction d with
  | zero =>
    intro j N W τ h1 h2 h3 h5 h6 h7 h8 h9
    obtain ⟨N, rfl⟩ : ∃ q, N = q + 1 := ⟨N - 1, by omega⟩
    have hj : j = tt := by omega
    subst hj
    refine ⟨τ, yfH_r τ, Or.inl ⟨?_, h5, h9⟩⟩
    rw [zf_M_check_239, h5.2.2.1, zq_qr (by omega), yv_k hq, yq_g, h3.1.2.2.1, h5.2.2.2.2, if_pos (nI_le (Nat.le_refl _) (by omega)), h5.2.2.2.1, nI_1, yq_v]
  | succ d ih =>
    intro j N W τ h1 h2 h3 h5 h6 h7 h8 h9
    obtain ⟨N, rfl⟩ : ∃ q, N = q + 1 := ⟨N - 1, by omega⟩
    have hjt : j < tt := by omega
    obtain ⟨b, b1, b2⟩ := ym_rdy (F := F) (s := 0) (t' := 0) (W := W) hq hpp h3 h5.2.1 h5.2.2.1 hjt hv
    have e : yth tt kd tg wy ex s C j (d + 1) W = yth tt kd tg wy ex s C (j + 1) d (if yrb kd tg C j = true then (ysu tt kd tg wy ex C j).foldl (ykp s (nI j)) W else W) := rfl
    rw [e, zf_M_check_239, h5.2.2.1, zq_qr (by omega), yv_k hq, yq_g, h3.1.2.2.1, h5.2.2.2.2, if_neg (nI_ge hjt (by omega)), b1, yq_c]
    unfold zf_M_check_292
    rcases b2 with ⟨b2, b0, b3⟩ | ⟨b2, b3⟩
    · have hr : yrb kd tg C j = true := yrb_i.mpr ⟨b0, b3⟩
      obtain ⟨a1, a2⟩ := yth_1 hpp hv hjt h6 h8 hr
      obtain ⟨g1, g2, g3, g4, g5⟩ := ykp_l (s := s) (x2 := nI j) (l := ysu tt kd tg wy ex C j) (W := W)
      obtain ⟨k1, k2, -⟩ := ycap (wy := wy) (ex := ex) hjt h4 b3
      obtain ⟨r, τ1, f1, f2, f3, f4⟩ := ym_move (F := F) hq hF hpp h3 h5 h6 h7 hjt hv b3 ⟨by omega, fun m1 m2 => by have := k2 m1 m2; omega⟩
      rw [if_pos hr, if_neg (by rw [b2]; decide), f1, yq_c]
      rcases f4 with ⟨r1, f5, f6⟩ | ⟨r1, f5⟩
      · rw [if_neg (by rw [r1]; decide), f5.2.2.2.2, nI_1, yq_v]
        obtain ⟨τ', z1, z2⟩ := ih (j + 1) N _ _ (by omega) (by omega) (yPm_H hq hpp (yfH_t (yfH_G f3) (yfH_1 τ1 (by omega))) h3) (yMx_29 f5) a1 (by omega) a2 (f6.trans h9)
        exact ⟨τ', yfH_t (yfH_t (yfH_G f3) (yfH_1 τ1 (by omega))) z1, z2⟩
      · rw [if_pos r1, yq_v, yq_v, yq_v]
        exact ⟨τ1, yfH_G f3, Or.inr ⟨rfl, (yth_p (s := s) hpp hv d (j + 1) _ (by omega) a1 a2).2.2.2.2.2 f5⟩⟩
    · have hr : ¬ yrb kd tg C j = true := fun hh => b3 (yrb_i.mp hh)
      have := ycn_s (g := ygw tg C) (t := j) tt 0
      rw [if_neg hr, if_pos b2, h5.2.2.2.2, nI_1, yq_v]
      obtain ⟨τ', z1, z2⟩ := ih (j + 1) N W _ (by omega) (by omega) (yPm_H hq hpp (yfH_1 τ (by omega)) h3) (yMx_29 h5) h6 h7 (by omega) h9
      exact ⟨τ', yfH_t (yfH_1 τ (by omega)) z1, z2⟩
/-- one state, in the class -/
theorem ycW_6 {W : Nat × (Nat → Nat → Int32) × (Nat → Int32) × (Nat → Int32) × (Nat → Int32) × Nat × (Nat → Nat) × Bool} {σ σ' : zs_S} (h : ycW σ W) (h1 : ∀ o k, 10 ≤ o → o ≤ 19 → o ≠ 16 → zs_i σ' o k = zs_i σ o k) : ycW σ' W := by
  obtain ⟨⟨⟨⟨a1, a2⟩, a3, a4, a5, a6, a7⟩, b1, b2, b3⟩, c⟩ := h
  exact ⟨⟨⟨⟨(h1 _ _ (by omega) (by omega) (by omega)).trans a1, a2⟩, fun s k hs hk => (h1 _ _ (by omega) (by omega) (by omega)).trans (a3 s k hs hk), a4, fun s hs => (h1 _ _ (by omega) (by omega) (by omega)).trans (a5 s hs), fun b hb => (h1 _ _ (by omega) (by omega) (by omega)).trans (a6 b hb), fun s hs => (h1 _ _ (by omega) (by omega) (by omega)).trans (a7 s hs)⟩, fun s hs => ⟨(h1 _ _ (by omega) (by omega) (by omega)).trans (b1 s hs).1, (h1 _ _ (by omega) (by omega) (by omega)).trans (b1 s hs).2.1, (h1 _ _ (by omega) (by omega) (by omega)).trans (b1 s hs).2.2⟩, (h1 _ _ (by omega) (by omega) (by omega)).trans b2, fun j hj => (h1 _ _ (by omega) (by omega) (by omega)).trans (b3 j hj)⟩, (h1 _ _ (by omega) (by omega) (by omega)).trans c⟩
theorem yx_st {s tt S N : Nat} {B Tt kd tg : Nat → Nat} {wy : Nat → Nat → Int32} {ex : Nat → List (Nat × Int32)} {W : Nat × (Nat → Nat → Int32) × (Nat → Int32) × (Nat → Int32) × (Nat → Int32) × Nat × (Nat → Nat) × Bool} {σ : zs_S} (hp : yPP p) (hF : 1700 < F) (hpp : yPp V L tt S B Tt kd tg wy ex) (hpc : yPc σ p V L tt S B Tt kd tg wy ex) (h : ycW σ W) (h138 : zs_r σ 138 1 = p) (hs : s < W.1) (hW : yWV tt B kd W) (hK : W.2.2.2.2.2.1 ≤ 4 * s) (hov : W.2.2.2.2.2.2.2 = false) : ∃ σ', zf_Explorer_explore_27 F (N + 1) (nI s) σ = (if zs_i σ' 10 11 = 0 then zf_Explorer_explore_27 F N (nI (s + 1)) σ' else some (0, σ')) ∧ ycW σ' (yth tt kd tg wy ex s (W.2.1 s) 0 tt W) ∧ zs_i σ' 16 (s + 1) = nI (yth tt kd tg wy ex s (W.2.1 s) 0 tt W).2.2.2.2.2.1 ∧ zs_i σ' 16 s = nI W.2.2.2.2.2.1 ∧ (∀ k, k ≠ s → k ≠ s + 1 → zs_i σ' 16 k = zs_i σ 16 k) ∧ yfE p σ σ' := by
  have hp2 := yPP_b hp
  have hp3 : p = 20 ∨ p = 79 := hp
  have hZ := hW.1
  have hs8 : s < 800 := by omega
  have hv := hW.2.1 s hs
  have hfe : yfE p σ (zs_wi (zs_wi σ 16 s (nI W.2.2.2.2.2.1)) 16 (s + 1) (nI W.2.2.2.2.2.1)) := ⟨fun o k w1 w2 => by rw [yt_in _ _ (by omega), yt_in _ _ (by omega)], fun _ _ => rfl, fun _ _ => rfl⟩
  have hc1 : ycW (zs_wi (zs_wi σ 16 s (nI W.2.2.2.2.2.1)) 16 (s + 1) (nI W.2.2.2.2.2.1)) W := ycW_6 h (fun o k w1 w2 w3 => by rw [yt_in _ _ (by omega), yt_in _ _ (by omega)])
  have hbs : zf_States_beginSteps F (nI s) σ = some (zs_wi (zs_wi σ 16 s (nI W.2.2.2.2.2.1)) 16 (s + 1) (nI W.2.2.2.2.2.1)) := by
    unfold zf_States_beginSteps
    rw [yn_b (show s < 801 by omega) (by decide), yq_g, nI_clamp (by omega), h.1.2.2.1, yq_v, nI_1, yn_b (show s + 1 < 801 by omega) (by decide), yq_g, nI_clamp (by omega), yt_in _ _ (by omega), h.1.2.2.1, yq_v]
  have hce : zf_States_cell F (nI s) 32 (zs_wi (zs_wi σ 16 s (nI W.2.2.2.2.2.1)) 16 (s + 1) (nI W.2.2.2.2.2.1)) = some (W.2.1 s 32, zs_wi (zs_wi σ 16 s (nI W.2.2.2.2.2.1)) 16 (s + 1) (nI W.2.2.2.2.2.1)) := yx_cell (k := 32) hc1 hs (by decide)
  have h16 : zs_i (zs_wi (zs_wi σ 16 s (nI W.2.2.2.2.2.1)) 16 (s + 1) (nI W.2.2.2.2.2.1)) 16 (s + 1) = nI W.2.2.2.2.2.1 := yt_ie _ _ _ _
  have h16' : zs_i (zs_wi (zs_wi σ 16 s (nI W.2.2.2.2.2.1)) 16 (s + 1) (nI W.2.2.2.2.2.1)) 16 s = nI W.2.2.2.2.2.1 := by rw [yt_in _ _ (by omega), yt_ie]
  have h16k : ∀ k, k ≠ s → k ≠ s + 1 → zs_i (zs_wi (zs_wi σ 16 s (nI W.2.2.2.2.2.1)) 16 (s + 1) (nI W.2.2.2.2.2.1)) 16 k = zs_i σ 16 k := fun k w1 w2 => by rw [yt_in _ _ (by omega), yt_in _ _ (by omega)]
  rw [zf_Explorer_explore_27, if_neg (show ¬ (800 : Int32) ≤ nI s from nI_ge (b := 800) hs8 (by decide)), h.1.1.1.1, if_neg (nI_ge hs (by omega)), hbs, yq_s, hce, yq_c]
  unfold zf_Explorer_explore_77
  by_cases h32 : W.2.1 s 32 = 0
  · have hpc1 := yPc_F hp hpp hfe hpc
    obtain ⟨σ', z1, z2, z3, z4⟩ := yx_th (F := F) (k27 := zf_Explorer_explore_27 F N) hp hF hpp hv hs8 h32 tt 0 F W _ (by omega) (by have := hpp.1; omega) hpc1 hc1 h16 h138 hs rfl hW (by omega)
    have hr138 : zs_r (zs_wi (zs_wi σ 16 s (nI W.2.2.2.2.2.1)) 16 (s + 1) (nI W.2.2.2.2.2.1)) 138 1 = p := h138
    refine ⟨σ', ?_, z2, z3, (z4.2 s (by omega)).trans h16', fun k w1 w2 => (z4.2 k w2).trans (h16k k w1 w2), yfE_t hfe z4.1⟩
    rw [if_pos h32, hr138, zq_qr (by omega), yp_k hp, yq_g, hpc1.1.2.2.1]
    exact z1
  · rw [if_neg h32]
    refine ⟨_, ?_, ?_, ?_, h16', h16k, hfe⟩
    · obtain ⟨G, hG⟩ : ∃ G, F = G + 1 := ⟨F - 1, by omega⟩
      rw [hG, zf_Explorer_explore_81, if_pos (by decide), nI_1, yq_v]
    · rw [yth_e h32]
      exact hc1
    · rw [yth_e h32]
      exact h16
/-- one state, in the reference -/
theorem ym_st {s tt S N : Nat} {B Tt kd tg : Nat → Nat} {wy : Nat → Nat → Int32} {ex : Nat → List (Nat × Int32)} {W : Nat × (Nat → Nat → Int32) × (Nat → Int32) × (Nat → Int32) × (Nat → Int32) × Nat × (Nat → Nat) × Bool} {τ : zs_S} (hq : yQQ q) (hF : 7000 < F) (hpp : yPp V L tt S B Tt kd tg wy ex) (hpm : yPm τ q V L tt S B Tt kd tg wy ex) (h : ymW τ tt W) (hr2 : zs_r τ 1 2 = q) (hat : zs_i τ 1 28 = nI s) (hs : s < W.1) (hW : yWV tt B kd W) (hK : W.2.2.2.2.2.1 ≤ 4 * s) (hov : W.2.2.2.2.2.2.2 = false) : ∃ τ', (∀ o k, ¬ (o = 1 ∧ (k = 4 ∨ k = 23 ∨ k = 24 ∨ k = 28 ∨ k = 29)) → ¬ (58 ≤ o ∧ o ≤ 66) → zs_i τ' o k = zs_i τ o k) ∧ (∀ o k, zs_r τ' o k = zs_r τ o k) ∧ ((zf_M_check_189 F (N + 1) τ = zf_M_check_189 F N τ' ∧ ymW τ' tt (yth tt kd tg wy ex s (W.2.1 s) 0 tt W) ∧ (yth tt kd tg wy ex s (W.2.1 s) 0 tt W).2.2.2.2.2.2.2 = false ∧ zs_i τ' 1 28 = nI (s + 1) ∧ zs_i τ' 1 4 = zs_i τ 1 4 ∧ zs_i τ' 62 s = nI W.2.2.2.2.2.1 ∧ (∀ k, k ≠ s → zs_i τ' 62 k = zs_i τ 62 k)) ∨ (zf_M_check_189 F (N + 1) τ = some (-3, τ') ∧ (yth tt kd tg wy ex s (W.2.1 s) 0 tt W).2.2.2.2.2.2.2 = true ∧ zs_i τ' 1 23 = 0 ∧ zs_i τ' 1 24 = 0 ∧ zs_i τ' 1 4 = 0)) := by
  have hq2 := yQQ_b hq
  have hq3 : q = 3 ∨ q = 30 := hq
  have hZ := hW.1
  have hs8 : s < 800 := by omega
  have hv := hW.2.1 s hs
  have hcp : ∀ τ : zs_S, zq_cp 0 τ 58 (nI (34 * s)) 0 34 27234 34 = true := fun τ => by
    rw [show (34 : Int32) = nI 34 from rfl, show (0 : Int32) = nI 0 from rfl]
    unfold zq_cp
    rw [nI_clamp (by omega), nI_clamp (by omega), nI_clamp (by omega), decide_eq_true (nI_pos (by omega)), decide_eq_true (nI_pos (by omega)), decide_eq_true (nI_pos (by omega)), decide_eq_true (by omega), decide_eq_true (by omega)]
    simp only [Bool.true_and, List.all_eq_true, List.mem_range]
    intro i hi
    rfl
  obtain ⟨τ0, hτ0⟩ : ∃ τ0, τ0 = zs_wi (zs_cp (zs_wi τ 62 s (nI W.2.2.2.2.2.1)) 58 64 (34 * s) 0 34) 1 29 (nI 0) := ⟨_, rfl⟩
  have f0 : ∀ o k, ¬ (o = 1 ∧ k = 29) → ¬ (o = 62 ∧ k = s) → o ≠ 64 → zs_i τ0 o k = zs_i τ o k := fun o k w1 w2 w3 => by
    rw [hτ0, yt_in _ _ (by omega), yt_ic, if_neg w3, yt_in _ _ (by omega)]
  have f0r : ∀ o k, zs_r τ0 o k = zs_r τ o k := fun o k => by rw [hτ0]; rfl
  have f62 : zs_i τ0 62 s = nI W.2.2.2.2.2.1 := by rw [hτ0, yt_in _ _ (by omega), yt_ic, if_neg (by omega), yt_ie]
  have e0 : zf_M_check_189 F (N + 1) τ = zf_M_check_239 F (zf_M_check_189 F N) F τ0 := by
    have d1 : zs_i (zs_wi τ 62 s (nI W.2.2.2.2.2.1)) 1 28 = nI s := by rw [yt_in _ _ (by omega)]; exact hat
    rw [zf_M_check_189, h.1.1, hat, if_neg (nI_ge hs (by omega)), yn_b (show s < 802 by omega) (by decide), yq_g, nI_clamp (by omega), h.2.2.2.1, yq_v, d1, show (34 : Int32) * nI s = nI (34 * s) from yn_mul 34 s, hcp, yq_g, nI_clamp (by omega), ym_cp0, ym_cp34, yq_v, yq_v, hτ0]
    rfl
  have hMx : yMx τ0 tt q W (W.2.1 s) s 0 := by
    refine ⟨ymW_F (fun o k w => f0 o k (by omega) (by omega) (by omega)) h, fun j hj => ?_, (f0r _ _).trans hr2, (f0 _ _ (by omega) (by omega) (by omega)).trans hat, by rw [hτ0, yt_ie]⟩
    rw [hτ0, yt_in _ _ (by omega), yt_ic, if_pos rfl]
    unfold va_cpy
    rw [if_pos (by omega), yt_in _ _ (by omega), show 34 * s + (j - 0) = 34 * s + j by omega]
    exact h.2.1 s j hs hj
  obtain ⟨τ1, z1, z2⟩ := ym_thr (F := F) (k189 := zf_M_check_189 F N) hq hF hpp hv hs8 tt 0 F W τ0 (by omega) (by have := hpp.1; omega) (yPm_F hq hpp (fun o k w1 w2 => f0 o k (by omega) (by omega) (by omega)) hpm) hMx hW hs (by omega) hov
  rcases z2 with ⟨z2, z3, z4⟩ | ⟨z2, z3⟩
  · refine ⟨zs_wi τ1 1 28 (nI (s + 1)), fun o k w1 w2 => ?_, fun o k => (z1.2 o k).trans (f0r o k), Or.inl ⟨e0.trans z2, ymW_F (fun o k w => yt_in _ _ (by omega)) z3.1, z4, yt_ie _ _ _ _, ?_, ?_, fun k hk => ?_⟩⟩
    · rw [yt_in _ _ (by omega), z1.1 o k (by omega) (by omega), f0 o k (by omega) (by omega) (by omega)]
    · rw [yt_in _ _ (by omega), z1.1 _ _ (by omega) (by omega), f0 _ _ (by omega) (by omega) (by omega)]
    · rw [yt_in _ _ (by omega), z1.1 _ _ (by omega) (by omega), f62]
    · rw [yt_in _ _ (by omega), z1.1 _ _ (by omega) (by omega), f0 _ _ (by omega) (by omega) (by omega)]
  · refine ⟨zs_wi (zs_wi (zs_wi τ1 1 23 0) 1 24 0) 1 4 0, fun o k w1 w2 => ?_, fun o k => (z1.2 o k).trans (f0r o k), Or.inr ⟨e0.trans z2, z3, ?_, ?_, yt_ie _ _ _ _⟩⟩
    · rw [yt_in _ _ (by omega), yt_in _ _ (by omega), yt_in _ _ (by omega), z1.1 o k (by omega) (by omega), f0 o k (by omega) (by omega) (by omega)]
    · rw [yt_in _ _ (by omega), yt_in _ _ (by omega), yt_ie]
    · rw [yt_in _ _ (by omega), yt_ie]
/-- all states -/
def yfI (τ τ' : zs_S) : Prop := (∀ o k, ¬ (o = 1 ∧ (k = 4 ∨ k = 23 ∨ k = 24 ∨ k = 28 ∨ k = 29)) → ¬ (58 ≤ o ∧ o ≤ 66) → zs_i τ' o k = zs_i τ o k) ∧ (∀ o k, zs_r τ' o k = zs_r τ o k)
theorem yfI_t {a b c : zs_S} (h : yfI a b) (g : yfI b c) : yfI a c := ⟨fun o k x y => (g.1 o k x y).trans (h.1 o k x y), fun o k => (g.2 o k).trans (h.2 o k)⟩
theorem yPm_I {tt S : Nat} {B Tt kd tg : Nat → Nat} {wy : Nat → Nat → Int32} {ex : Nat → List (Nat × Int32)} {τ τ' : zs_S} (hq : yQQ q) (hpp : yPp V L tt S B Tt kd tg wy ex) (hf : yfI τ τ') (h : yPm τ q V L tt S B Tt kd tg wy ex) : yPm τ' q V L tt S B Tt kd tg wy ex := by
  have hq3 : q = 3 ∨ q = 30 := hq
  exact yPm_F hq hpp (fun o k w1 w2 => hf.1 o k (by omega) (by omega)) h
def yFn (σ τ : zs_S) (K s : Nat) (fn : Nat → Nat) : Prop := (∀ u, u < s → zs_i σ 16 u = nI (fn u) ∧ zs_i τ 62 u = nI (fn u) ∧ fn u ≤ K) ∧ (∀ u, u + 1 < s → fn u ≤ fn (u + 1))
/-- no steps just when no thread is ready -/
def yRn (tt : Nat) (kd tg : Nat → Nat) (R : Nat → Nat → Int32) (s : Nat) (fn : Nat → Nat) : Prop := ∀ u, u + 1 < s → (fn u = fn (u + 1) ↔ ∀ t, t < tt → ¬ yrb kd tg (R u) t = true)
/-- what is there when the states are found -/
def yFin (σ τ : zs_S) (tt : Nat) (B kd tg : Nat → Nat) (W : Nat × (Nat → Nat → Int32) × (Nat → Int32) × (Nat → Int32) × (Nat → Int32) × Nat × (Nat → Nat) × Bool) (fn : Nat → Nat) : Prop := ycW σ W ∧ ymW τ tt W ∧ yWV tt B kd W ∧ yRn tt kd tg W.2.1 (W.1 + 1) fn ∧ 1 ≤ W.1 ∧ W.2.2.2.2.2.1 ≤ 3200 ∧ yFn σ τ W.2.2.2.2.2.1 (W.1 + 1) fn
theorem yy_loop {tt S : Nat} {B Tt kd tg : Nat → Nat} {wy : Nat → Nat → Int32} {ex : Nat → List (Nat × Int32)} (hp : yPP p) (hq : yQQ q) (hF : 7000 < F) (hpp : yPp V L tt S B Tt kd tg wy ex) : ∀ e s N N' (W : Nat × (Nat → Nat → Int32) × (Nat → Int32) × (Nat → Int32) × (Nat → Int32) × Nat × (Nat → Nat) × Bool) fn σ τ, s + e = 801 → e ≤ N → e ≤ N' → yPc σ p V L tt S B Tt kd tg wy ex → yPm τ q V L tt S B Tt kd tg wy ex → ycW σ W → ymW τ tt W → zs_r σ 138 1 = p → zs_r τ 1 2 = q → zs_i τ 1 28 = nI s → s ≤ W.1 → 1 ≤ W.1 → yWV tt B kd W → W.2.2.2.2.2.1 ≤ 4 * s → W.2.2.2.2.2.2.2 = false → yFn σ τ W.2.2.2.2.2.1 s fn → (0 < s → zs_i σ 16 s = nI W.2.2.2.2.2.1) → yRn tt kd tg W.2.1 s fn → (∀ u, u + 1 = s → (fn u = W.2.2.2.2.2.1 ↔ ∀ t, t < tt → ¬ yrb kd tg (W.2.1 u) t = true)) → ∃ (r r' : Int32) (σ' τ' : zs_S), zf_Explorer_explore_27 F N (nI s) σ = some (r, σ') ∧ zf_M_check_189 F N' τ = some (r', τ') ∧ yfE p σ σ' ∧ yfI τ τ' ∧ ((r = 1 ∧ r' = -2 ∧ zs_i τ' 1 4 = zs_i τ 1 4 ∧ ∃ W' fn', yFin σ' τ' tt B kd tg W' fn') ∨ (r = 0 ∧ r' = -3 ∧ zs_i τ' 1 23 = 0 ∧ zs_i τ' 1 24 = 0 ∧ zs_i τ' 1 4 = 0)) := by
  have hp2 := yPP_b hp
  have hp3 : p = 20 ∨ p = 79 := hp
  have hq2 := yQQ_b hq
  intro e
  induction e with
  | zero =>
    intro s N N' W fn σ τ h1 h2 h2' h3 h4 h5 h6 h7 h8 h9 h10 h11 h12 h13 h14 h15 h16 h17 h18
    have := h12.1
    omega
  | succ e ih =>
    intro s N N' W fn σ τ h1 h2 h2' h3 h4 h5 h6 h7 h8 h9 h10 h11 h12 h13 h14 h15 h16 h17 h18
    obtain ⟨N, rfl⟩ : ∃ q, N = q + 1 := ⟨N - 1, by omega⟩
    obtain ⟨N', rfl⟩ : ∃ q, N' = q + 1 := ⟨N' - 1, by omega⟩
    have hZ := h12.1
    by_cases hs : s = W.1
    · have hc : zf_Explorer_explore_27 F (N + 1) (nI s) σ = some (1, σ) := by
        rw [zf_Explorer_explore_27, h5.1.1.1.1]
        unfold zf_Explorer_explore_128
        by_cases h8 : (800 : Int32) ≤ nI s
        · rw [if_pos h8]
        · rw [if_neg h8, if_pos (nI_le (by omega) (by omega))]
      have hm : zf_M_check_189 F (N' + 1) τ = some (-2, zs_wi τ 62 s (nI W.2.2.2.2.2.1)) := by
        rw [zf_M_check_189, h6.1.1, h9, if_pos (nI_le (by omega) (by omega)), yn_b (show W.1 < 802 by omega) (by decide), yq_g, nI_clamp (by omega), h6.2.2.2.1, yq_v, hs]
      refine ⟨1, -2, σ, _, hc, hm, yfE_r σ, ⟨fun o k w1 w2 => yt_in _ _ (by omega), fun _ _ => rfl⟩, Or.inl ⟨rfl, rfl, yt_in _ _ (by omega), W, yup fn s W.2.2.2.2.2.1, h5, ymW_F (fun o k w => yt_in _ _ (by omega)) h6, h12, fun u hu => ?_, h11, by omega, fun u hu => ?_, fun u hu => ?_⟩⟩
      · by_cases eu : u + 1 = s
        · rw [eu, yup_e, yup_n (by omega)]
          exact h18 u eu
        · rw [yup_n (by omega), yup_n eu]
          exact h17 u (by omega)
      · by_cases eu : u = s
        · rw [eu, yup_e, yt_ie]
          exact ⟨h16 (by omega), rfl, Nat.le_refl _⟩
        · rw [yup_n eu, yt_in _ _ (by omega)]
          exact h15.1 u (by omega)
      · by_cases eu : u + 1 = s
        · rw [eu, yup_e, yup_n (by omega)]
          exact (h15.1 u (by omega)).2.2
        · rw [yup_n (by omega), yup_n eu]
          exact h15.2 u (by omega)
    · have hsl : s < W.1 := by omega
      obtain ⟨σ1, a1, a2, a3, a4, a5, a6⟩ := yx_st (F := F) (N := N) hp (by omega) hpp h3 h5 h7 hsl h12 h13 h14
      obtain ⟨τ1, b1, b2, b3⟩ := ym_st (F := F) (N := N') hq hF hpp h4 h6 h8 h9 hsl h12 h13 h14
      have hfI : yfI τ τ1 := ⟨b1, b2⟩
      have hv := h12.2.1 s hsl
      obtain ⟨c1, c2, c3, c4, c5, c6⟩ := yth_p (s := s) hpp hv tt 0 W (by omega) h12 (by omega)
      rcases b3 with ⟨d1, d2, d3, d4, d5, d6, d7⟩ | ⟨d1, d3, d4, d5, d6⟩
      · have hov : zs_i σ1 10 11 = 0 := by rw [a2.2, if_neg (by rw [d3]; decide)]
        obtain ⟨r, r', σ', τ', z1, z2, z3, z4, z5⟩ := ih (s + 1) N N' _ (yup fn s W.2.2.2.2.2.1) σ1 τ1 (by omega) (by omega) (by omega) (yPc_F hp hpp a6 h3) (yPm_I hq hpp hfI h4) a2 d2 ((a6.2.1 _ _).trans h7) ((b2 _ _).trans h8) d4 (by omega) (by omega) c1 (by omega) d3 ⟨fun u hu => by
          by_cases eu : u = s
          · rw [eu, yup_e, a4, d6]
            exact ⟨rfl, rfl, c4⟩
          · rw [yup_n eu, a5 u eu (by omega), d7 u eu]
            have := h15.1 u (by omega)
            exact ⟨this.1, this.2.1, Nat.le_trans this.2.2 c4⟩, fun u hu => by
          by_cases eu : u + 1 = s
          · rw [eu, yup_e, yup_n (by omega)]
            exact (h15.1 u (by omega)).2.2
          · rw [yup_n (by omega), yup_n eu]
            exact h15.2 u (by omega)⟩ (fun _ => a3) (fun u hu => by
          rw [c5 u (by omega)]
          by_cases eu : u + 1 = s
          · rw [eu, yup_e, yup_n (by omega)]
            exact h18 u eu
          · rw [yup_n (by omega), yup_n eu]
            exact h17 u (by omega)) (fun u hu => by
          have eu : u = s := by omega
          rw [c5 u (by omega), eu, yup_e]
          have := yth_q (s := s) hpp hv tt 0 W (by omega) h12 (by omega) d3
          exact this.trans ⟨fun hh t w => hh t (by omega) w, fun hh t _ w => hh t w⟩)
        refine ⟨r, r', σ', τ', ?_, d1.trans z2, yfE_t a6 z3, yfI_t hfI z4, ?_⟩
        · rw [a1, if_pos hov]
          exact z1
        · rcases z5 with ⟨y1, y2, y3, y4⟩ | y5
          · exact Or.inl ⟨y1, y2, y3.trans d5, y4⟩
          · exact Or.inr y5
      · have hov : ¬ zs_i σ1 10 11 = 0 := by
          rw [a2.2, if_pos d3]
          decide
        refine ⟨0, -3, σ1, τ1, ?_, d1, a6, hfI, Or.inr ⟨rfl, rfl, d4, d5, d6⟩⟩
        rw [a1, if_neg hov]
end YLQ
