/-! the questions: sorts of states, first, counts of sorts -/
section YQS
variable {F n m p q t V L T : Nat} {v : Nat → Nat}
def yfQ (τ τ' : zs_S) : Prop := (∀ o k, o ≠ 64 → zs_i τ' o k = zs_i τ o k) ∧ (∀ o k, zs_r τ' o k = zs_r τ o k)
theorem yfQ_r (τ : zs_S) : yfQ τ τ := ⟨fun _ _ _ => rfl, fun _ _ => rfl⟩
theorem yfQ_t {a b c : zs_S} (h : yfQ a b) (g : yfQ b c) : yfQ a c := ⟨fun o k x => (g.1 o k x).trans (h.1 o k x), fun o k => (g.2 o k).trans (h.2 o k)⟩
theorem yq_end {tt S s : Nat} {B Tt kd tg : Nat → Nat} {wy : Nat → Nat → Int32} {ex : Nat → List (Nat × Int32)} {W : Nat × (Nat → Nat → Int32) × (Nat → Int32) × (Nat → Int32) × (Nat → Int32) × Nat × (Nat → Nat) × Bool} {σ : zs_S} (hp : yPP p) (hF : 10 < F) (hpp : yPp V L tt S B Tt kd tg wy ex) (hpc : yPc σ p V L tt S B Tt kd tg wy ex) (h : ycW σ W) (h138 : zs_r σ 138 1 = p) (hs : s < W.1) : ∃ b : Int32, zf_Explorer_haveAllEnded F (nI s) σ = some (b, σ) ∧ ((b = 1 ∧ ∀ t, t < tt → W.2.1 s (12 + t) = -1) ∨ (b = 0 ∧ ¬ ∀ t, t < tt → W.2.1 s (12 + t) = -1)) := by
  have hp2 := yPP_b hp
  have hS := hpp.1
  have loop : ∀ d j N, j + d = tt → d < N → ∃ b : Int32, zf_Explorer_haveAllEnded_2 F N (nI s) (nI j) σ = some (b, σ) ∧ ((b = 1 ∧ ∀ t, j ≤ t → t < tt → W.2.1 s (12 + t) = -1) ∨ (b = 0 ∧ ¬ ∀ t, j ≤ t → t < tt → W.2.1 s (12 + t) = -1)) := by
    intro d
    induction d with
    | zero =>
      intro j N h1 h2
      obtain ⟨N, rfl⟩ : ∃ q, N = q + 1 := ⟨N - 1, by omega⟩
      refine ⟨1, ?_, Or.inl ⟨rfl, fun t w1 w2 => by omega⟩⟩
      rw [zf_Explorer_haveAllEnded_2, h138, zq_qr (by omega), yp_k hp, yq_g, hpc.1.2.2.1, if_pos (nI_le (by omega) (by omega))]
    | succ d ih =>
      intro j N h1 h2
      obtain ⟨N, rfl⟩ : ∃ q, N = q + 1 := ⟨N - 1, by omega⟩
      rw [zf_Explorer_haveAllEnded_2, h138, zq_qr (by omega), yp_k hp, yq_g, hpc.1.2.2.1, if_neg (nI_ge (by omega) (by omega)), show (12 : Int32) + nI j = nI (12 + j) from nI_add 12 j, yx_cell h hs (by omega), yq_c]
      by_cases e : W.2.1 s (12 + j) = -1
      · rw [if_pos e, nI_1, yq_v]
        obtain ⟨b, b1, b2⟩ := ih (j + 1) N (by omega) (by omega)
        refine ⟨b, b1, ?_⟩
        rcases b2 with ⟨b2, b3⟩ | ⟨b2, b3⟩
        · refine Or.inl ⟨b2, fun t w1 w2 => ?_⟩
          by_cases ej : t = j
          · rw [ej]
            exact e
          · exact b3 t (by omega) w2
        · exact Or.inr ⟨b2, fun hh => b3 (fun t w1 w2 => hh t (by omega) w2)⟩
      · rw [if_neg e]
        exact ⟨0, rfl, Or.inr ⟨rfl, fun hh => e (hh j (Nat.le_refl _) (by omega))⟩⟩
  obtain ⟨b, b1, b2⟩ := loop tt 0 F (by omega) (by omega)
  refine ⟨b, b1, ?_⟩
  rcases b2 with ⟨b2, b3⟩ | ⟨b2, b3⟩
  · exact Or.inl ⟨b2, fun t w => b3 t (by omega) w⟩
  · exact Or.inr ⟨b2, fun hh => b3 (fun t _ w => hh t w)⟩
/-- the sort of a row -/
def ysr (tt : Nat) (kd tg : Nat → Nat) (C : Nat → Int32) (z : Int32) : Prop := (z = 2 ∧ ¬ C 32 = 0) ∨ (C 32 = 0 ∧ z = 0 ∧ ∀ t, t < tt → C (12 + t) = -1) ∨ (C 32 = 0 ∧ z = 1 ∧ (¬ ∀ t, t < tt → C (12 + t) = -1) ∧ ∀ t, t < tt → ¬ yrb kd tg C t = true) ∨ (C 32 = 0 ∧ z = -1 ∧ (¬ ∀ t, t < tt → C (12 + t) = -1) ∧ ¬ ∀ t, t < tt → ¬ yrb kd tg C t = true)
theorem ym_load {s tt : Nat} {W : Nat × (Nat → Nat → Int32) × (Nat → Int32) × (Nat → Int32) × (Nat → Int32) × Nat × (Nat → Nat) × Bool} {τ : zs_S} (h : ymW τ tt W) (hs : s < W.1) (hZ : W.1 ≤ 800) : ∃ τ', zf_M_load F (nI s) τ = some τ' ∧ yfQ τ τ' ∧ ∀ j, j < 34 → zs_i τ' 64 j = yD tt (W.2.1 s) j := by
  have hcp : zq_cp 0 τ 58 (nI (34 * s)) 0 34 27234 34 = true := by
    rw [show (34 : Int32) = nI 34 from rfl, show (0 : Int32) = nI 0 from rfl]
    unfold zq_cp
    rw [nI_clamp (by omega), nI_clamp (by omega), nI_clamp (by omega), decide_eq_true (nI_pos (by omega)), decide_eq_true (nI_pos (by omega)), decide_eq_true (nI_pos (by omega)), decide_eq_true (by omega), decide_eq_true (by omega)]
    simp only [Bool.true_and, List.all_eq_true, List.mem_range]
    intro i hi
    rfl
  refine ⟨zs_cp τ 58 64 (34 * s) 0 34, ?_, ⟨fun o k w => by rw [yt_ic, if_neg w], fun _ _ => rfl⟩, fun j hj => ?_⟩
  · unfold zf_M_load
    rw [yn_1m, hcp, yq_g, nI_clamp (by omega), ym_cp0, ym_cp34, yq_v]
  · rw [yt_ic, if_pos rfl]
    unfold va_cpy
    rw [if_pos (by omega), show 34 * s + (j - 0) = 34 * s + j by omega]
    exact h.2.1 s j hs hj
theorem yQx_F {tt S : Nat} {B Tt kd tg : Nat → Nat} {wy : Nat → Nat → Int32} {ex : Nat → List (Nat × Int32)} {W : Nat × (Nat → Nat → Int32) × (Nat → Int32) × (Nat → Int32) × (Nat → Int32) × Nat × (Nat → Nat) × Bool} {fn : Nat → Nat} {σ τ σ' τ' : zs_S} (h : yQx σ τ p q V L tt S B Tt kd tg wy ex W fn) (h1 : ∀ o k, o ≠ 139 → zs_i σ' o k = zs_i σ o k) (h2 : ∀ o k, zs_r σ' o k = zs_r σ o k) (h3 : ∀ o k, o ≠ 64 → o ≠ 67 → zs_i τ' o k = zs_i τ o k) (h4 : ∀ o k, zs_r τ' o k = zs_r τ o k) : yQx σ' τ' p q V L tt S B Tt kd tg wy ex W fn := by
  obtain ⟨hp, hq, hr6, hr2, hpp, hpc, hpm, ⟨f1, f2, f3, f4, f5, f6, f7⟩, h5, h138⟩ := h
  have hp3 : p = 20 ∨ p = 79 := hp
  have hq3 : q = 3 ∨ q = 30 := hq
  refine ⟨hp, hq, (h2 _ _).trans hr6, (h4 _ _).trans hr2, hpp, yPc_G hp hpp (fun o k w1 w2 => h1 o k (by omega)) (fun o k _ _ => h2 o k) hpc, yPm_F hq hpp (fun o k w1 w2 => h3 o k (by omega) (by omega)) hpm, ⟨ycW_6 f1 (fun o k w1 w2 _ => h1 o k (by omega)), ymW_F (fun o k w => h3 o k (by omega) (by omega)) f2, f3, f4, f5, f6, fun u hu => ?_, f7.2⟩, (h3 _ _ (by omega) (by omega)).trans h5, (h2 _ _).trans h138⟩
  obtain ⟨c1, c2, c3⟩ := f7.1 u hu
  exact ⟨(h1 _ _ (by omega)).trans c1, (h3 _ _ (by omega) (by omega)).trans c2, c3⟩
theorem ym_sort {tt S s : Nat} {B Tt kd tg : Nat → Nat} {wy : Nat → Nat → Int32} {ex : Nat → List (Nat × Int32)} {W : Nat × (Nat → Nat → Int32) × (Nat → Int32) × (Nat → Int32) × (Nat → Int32) × Nat × (Nat → Nat) × Bool} {fn : Nat → Nat} {σ τ : zs_S} (hF : 10 < F) (h : yQx σ τ p q V L tt S B Tt kd tg wy ex W fn) (hs : s < W.1) : ∃ (z : Int32) (τ' : zs_S), zf_M_sortOf F (nI s) τ = some (z, τ') ∧ yfQ τ τ' ∧ (∀ j, j < 34 → zs_i τ' 64 j = yD tt (W.2.1 s) j) ∧ ysr tt kd tg (W.2.1 s) z := by
  obtain ⟨hp, hq, hr6, hr2, hpp, hpc, hpm, ⟨f1, f2, f3, f4, f5, f6, f7⟩, h5, h138⟩ := h
  have hq2 := yQQ_b hq
  have hq3 : q = 3 ∨ q = 30 := hq
  have hS := hpp.1
  have hZ := f3.1
  have hv := f3.2.1 s hs
  obtain ⟨τ1, a1, a2, a3⟩ := ym_load (F := F) f2 hs hZ
  have hpm1 : yPm τ1 q V L tt S B Tt kd tg wy ex := yPm_F hq hpp (fun o k w1 w2 => a2.1 o k (by omega)) hpm
  have hr21 : zs_r τ1 1 2 = q := (a2.2 _ _).trans hr2
  have c32 : zs_i τ1 64 32 = W.2.1 s 32 := (a3 _ (by omega)).trans (yD_e (Or.inl rfl))
  have loop : ∀ d j N (x2 x3 : Int32), j + d = tt → d < N → (x2 = 0 ∨ x2 = 1) → (x3 = 0 ∨ x3 = 1) → ∃ z : Int32, zf_M_sortOf_24 F N x2 x3 (nI j) τ1 = some (z, τ1) ∧ ((z = 0 ∧ x2 = 1 ∧ ∀ t, j ≤ t → t < tt → W.2.1 s (12 + t) = -1) ∨ ((¬ (x2 = 1 ∧ ∀ t, j ≤ t → t < tt → W.2.1 s (12 + t) = -1)) ∧ ((z = 1 ∧ x3 = 0 ∧ ∀ t, j ≤ t → t < tt → ¬ yrb kd tg (W.2.1 s) t = true) ∨ (z = -1 ∧ ¬ (x3 = 0 ∧ ∀ t, j ≤ t → t < tt → ¬ yrb kd tg (W.2.1 s) t = true))))) := by
    intro d
    induction d with
    | zero =>
      intro j N x2 x3 h1 h2 h3 h4
      obtain ⟨N, rfl⟩ : ∃ q, N = q + 1 := ⟨N - 1, by omega⟩
      rw [zf_M_sortOf_24, hr21, zq_qr (by omega), yv_k hq, yq_g, hpm1.1.2.2.1, if_pos (nI_le (by omega) (by omega))]
      unfold zf_M_sortOf_91
      rcases h3 with h3 | h3
      · rw [if_pos h3]
        rcases h4 with h4 | h4
        · rw [if_pos h4]
          exact ⟨1, rfl, Or.inr ⟨fun hh => by rw [h3] at hh; exact absurd hh.1 (by decide), Or.inl ⟨rfl, h4, fun t w1 w2 => by omega⟩⟩⟩
        · rw [if_neg (by rw [h4]; decide)]
          exact ⟨-1, rfl, Or.inr ⟨fun hh => by rw [h3] at hh; exact absurd hh.1 (by decide), Or.inr ⟨rfl, fun hh => by rw [h4] at hh; exact absurd hh.1 (by decide)⟩⟩⟩
      · rw [if_neg (by rw [h3]; decide)]
        exact ⟨0, rfl, Or.inl ⟨rfl, h3, fun t w1 w2 => by omega⟩⟩
    | succ d ih =>
      intro j N x2 x3 h1 h2 h3 h4
      obtain ⟨N, rfl⟩ : ∃ q, N = q + 1 := ⟨N - 1, by omega⟩
      have hjt : j < tt := by omega
      obtain ⟨b, b1, b2⟩ := ym_rdy (F := F) (s := 0) (t' := 0) (W := W) hq hpp hpm1 a3 hr21 hjt hv
      have cpl : zs_i τ1 64 (12 + 5 * j + 3) = W.2.1 s (12 + j) := (a3 _ (by omega)).trans (yD_pl hjt (by omega))
      have hb : (b = 1 ∧ yrb kd tg (W.2.1 s) j = true) ∨ (b = 0 ∧ ¬ yrb kd tg (W.2.1 s) j = true) := by
        rcases b2 with ⟨b2, b3⟩ | ⟨b2, b3⟩
        · exact Or.inl ⟨b2, yrb_i.mpr b3⟩
        · exact Or.inr ⟨b2, fun hh => b3 (yrb_i.mp hh)⟩
      have hpl : (W.2.1 s (12 + j) = -1 ∧ ¬ (0 : Int32) ≤ W.2.1 s (12 + j)) ∨ (¬ W.2.1 s (12 + j) = -1 ∧ (0 : Int32) ≤ W.2.1 s (12 + j)) := by
        rcases hv.2.2.1 j hjt with e | ⟨y, y1, y2, y3⟩
        · rw [e]
          exact Or.inl ⟨rfl, by decide⟩
        · have := hpp.2.1.2.2.2 (j + 1) (by omega)
          rw [y3]
          exact Or.inr ⟨yn_m1 (by omega), nI_pos' (by omega)⟩
      -- one turn
      have e1 : ∃ (y2 y3 : Int32), zf_M_sortOf_24 F (N + 1) x2 x3 (nI j) τ1 = zf_M_sortOf_24 F N y2 y3 (nI (j + 1)) τ1 ∧ (y2 = 0 ∨ y2 = 1) ∧ (y3 = 0 ∨ y3 = 1) ∧ (y2 = 1 ↔ (x2 = 1 ∧ W.2.1 s (12 + j) = -1)) ∧ (y3 = 0 ↔ (x3 = 0 ∧ ¬ yrb kd tg (W.2.1 s) j = true)) := by
        have hy3 : ∃ y3 : Int32, x3 ||| b = y3 ∧ (y3 = 0 ∨ y3 = 1) ∧ (y3 = 0 ↔ (x3 = 0 ∧ ¬ yrb kd tg (W.2.1 s) j = true)) := by
          rcases h4 with h4 | h4
          · rcases hb with ⟨hb, hb2⟩ | ⟨hb, hb2⟩
            · exact ⟨1, by rw [h4, hb]; decide, Or.inr rfl, fun hh => absurd hh (by decide), fun hh => absurd hb2 hh.2⟩
            · exact ⟨0, by rw [h4, hb]; decide, Or.inl rfl, fun _ => ⟨h4, hb2⟩, fun _ => rfl⟩
          · rcases hb with ⟨hb, hb2⟩ | ⟨hb, hb2⟩
            · exact ⟨1, by rw [h4, hb]; decide, Or.inr rfl, fun hh => absurd hh (by decide), fun hh => absurd hb2 hh.2⟩
            · exact ⟨1, by rw [h4, hb]; decide, Or.inr rfl, fun hh => absurd hh (by decide), fun hh => by rw [h4] at hh; exact absurd hh.1 (by decide)⟩
        obtain ⟨y3, g1, g2, g3⟩ := hy3
        rw [zf_M_sortOf_24, hr21, zq_qr (by omega), yv_k hq, yq_g, hpm1.1.2.2.1, if_neg (nI_ge hjt (by omega))]
        unfold zf_M_each zf_M_sortOf_57
        rw [yq_c, show (12 : Int32) + 5 * nI j + 3 = nI (12 + 5 * j + 3) from yn_ea j 3, yn_b (show 12 + 5 * j + 3 < 34 by omega) (by decide), yq_g, nI_clamp (by omega), cpl, b1, yq_v, yq_c, g1, yq_v, nI_1, yq_v, yq_v, yq_c, yq_v, yq_v]
        rcases hpl with ⟨w1, w2⟩ | ⟨w1, w2⟩
        · rw [if_neg w2]
          rcases h3 with h3 | h3
          · refine ⟨0, y3, ?_, Or.inl rfl, g2, ⟨fun hh => absurd hh (by decide), fun hh => by rw [h3] at hh; exact absurd hh.1 (by decide)⟩, g3⟩
            rw [h3, show (0 : Int32) &&& 1 = 0 from by decide, g1]
          · refine ⟨1, y3, ?_, Or.inr rfl, g2, ⟨fun _ => ⟨h3, w1⟩, fun _ => rfl⟩, g3⟩
            rw [h3, show (1 : Int32) &&& 1 = 1 from by decide, g1]
        · rw [if_pos w2]
          refine ⟨0, y3, ?_, Or.inl rfl, g2, ⟨fun hh => absurd hh (by decide), fun hh => absurd hh.2 w1⟩, g3⟩
          rcases h3 with h3 | h3
          · rw [h3, show (0 : Int32) &&& 0 = 0 from by decide]
          · rw [h3, show (1 : Int32) &&& 0 = 0 from by decide]
      obtain ⟨y2, y3, g1, g2, g3, g4, g5⟩ := e1
      obtain ⟨z, z1, z2⟩ := ih (j + 1) N y2 y3 (by omega) (by omega) g2 g3
      refine ⟨z, g1.trans z1, ?_⟩
      have up : ∀ {Q : Nat → Prop}, (∀ t, j ≤ t → t < tt → Q t) ↔ (Q j ∧ ∀ t, j + 1 ≤ t → t < tt → Q t) := fun {Q} => ⟨fun hh => ⟨hh j (Nat.le_refl _) hjt, fun t w1 w2 => hh t (by omega) w2⟩, fun hh t w1 w2 => by
        by_cases ej : t = j
        · rw [ej]
          exact hh.1
        · exact hh.2 t (by omega) w2⟩
      rw [up (Q := fun t => W.2.1 s (12 + t) = -1), up (Q := fun t => ¬ yrb kd tg (W.2.1 s) t = true)]
      rcases z2 with ⟨k1, k2, k3⟩ | ⟨k1, k2⟩
      · exact Or.inl ⟨k1, (g4.mp k2).1, (g4.mp k2).2, k3⟩
      · refine Or.inr ⟨fun hh => k1 ⟨g4.mpr ⟨hh.1, hh.2.1⟩, hh.2.2⟩, ?_⟩
        rcases k2 with ⟨k2, k3, k4⟩ | ⟨k2, k3⟩
        · exact Or.inl ⟨k2, (g5.mp k3).1, (g5.mp k3).2, k4⟩
        · exact Or.inr ⟨k2, fun hh => k3 ⟨g5.mpr ⟨hh.1, hh.2.1⟩, hh.2.2⟩⟩
  unfold zf_M_sortOf
  rw [a1, yq_s, show zq_b 32 34 = true from by decide, yq_g, show (32 : Int32).toNatClampNeg = 32 from by decide, c32]
  by_cases e0 : W.2.1 s 32 = 0
  · rw [e0, if_pos (show (0 : Int32) ≤ 0 by decide)]
    obtain ⟨z, z1, z2⟩ := loop tt 0 F 1 0 (by omega) (by omega) (Or.inr rfl) (Or.inl rfl)
    refine ⟨z, τ1, z1, a2, a3, ?_⟩
    rcases z2 with ⟨k1, -, k3⟩ | ⟨k1, ⟨k2, -, k4⟩ | ⟨k2, k3⟩⟩
    · exact Or.inr (Or.inl ⟨e0, k1, fun t w => k3 t (by omega) w⟩)
    · exact Or.inr (Or.inr (Or.inl ⟨e0, k2, fun hh => k1 ⟨rfl, fun t _ w => hh t w⟩, fun t w => k4 t (by omega) w⟩))
    · exact Or.inr (Or.inr (Or.inr ⟨e0, k2, fun hh => k1 ⟨rfl, fun t _ w => hh t w⟩, fun hh => k3 ⟨rfl, fun t _ w => hh t w⟩⟩))
  · have hgt : ¬ W.2.1 s 32 ≤ 0 := by
      rcases hv.2.2.2.2.2 with hh | hh | hh
      · exact absurd hh e0
      · rw [hh]; decide
      · rw [hh]; decide
    rw [if_neg hgt]
    exact ⟨2, τ1, rfl, a2, a3, Or.inl ⟨rfl, e0⟩⟩
theorem yx_sort {tt S s : Nat} {B Tt kd tg : Nat → Nat} {wy : Nat → Nat → Int32} {ex : Nat → List (Nat × Int32)} {W : Nat × (Nat → Nat → Int32) × (Nat → Int32) × (Nat → Int32) × (Nat → Int32) × Nat × (Nat → Nat) × Bool} {fn : Nat → Nat} {σ τ : zs_S} {z x : Int32} (hF : 10 < F) (h : yQx σ τ p q V L tt S B Tt kd tg wy ex W fn) (hs : s < W.1) (hz : ysr tt kd tg (W.2.1 s) z) (hx : x = 0 ∨ x = 1 ∨ x = 2) : zf_Explorer_isSort F (nI s) x σ = some (if z = x then 1 else 0, σ) := by
  obtain ⟨hp, hq, hr6, hr2, hpp, hpc, hpm, ⟨f1, f2, f3, f4, f5, f6, f7⟩, h5, h138⟩ := h
  have hS := hpp.1
  have hZ := f3.1
  have hcc : zf_States_cell F (nI s) 32 σ = some (W.2.1 s 32, σ) := yx_cell (k := 32) f1 hs (by decide)
  obtain ⟨b, b1, b2⟩ := yq_end (F := F) hp hF hpp hpc f1 h138 hs
  obtain ⟨u1, -, u3⟩ := f7.1 s (by omega)
  obtain ⟨w1, -, w3⟩ := f7.1 (s + 1) (by omega)
  have mono := f7.2 s (by omega)
  have hst : zf_States_stepsOf F (nI s) σ = some (nI (fn (s + 1) - fn s), σ) := by
    unfold zf_States_stepsOf
    rw [nI_1, yn_b (show s + 1 < 801 by omega) (by decide), yq_g, yn_b (show s < 801 by omega) (by decide), yq_g, nI_clamp (by omega), nI_clamp (by omega), u1, w1, yn_sub mono]
  have hst0 : (nI (fn (s + 1) - fn s) = 0) ↔ ∀ t, t < tt → ¬ yrb kd tg (W.2.1 s) t = true := by
    rw [show (0 : Int32) = nI 0 from rfl, nI_eq (by omega) (by omega)]
    exact ⟨fun hh => (f4 s (by omega)).mp (by omega), fun hh => by have := (f4 s (by omega)).mpr hh; omega⟩
  unfold zf_Explorer_isSort zf_Explorer_isSort_18 zf_Explorer_isSort_28 zf_Explorer_isSort_41 zf_Explorer_isSort_42 zf_Explorer_isSort_76 zf_Explorer_isSort_77
  rw [hcc, yq_c, b1, hst, yz_0, yz_1, yq_g, yq_g]
  rcases hx with e | e | e
  · rw [e]
    rcases hz with ⟨z1, z2⟩ | ⟨z2, z1, z3⟩ | ⟨z2, z1, z3, z4⟩ | ⟨z2, z1, z3, z4⟩
    · rw [z1, if_neg z2, if_neg (by decide), if_neg (by decide), if_neg (by decide), if_neg (by decide)]
    · have hb : b = 1 := by
        rcases b2 with ⟨b2, -⟩ | ⟨-, b3⟩
        · exact b2
        · exact absurd z3 b3
      rw [z1, if_pos z2, if_neg (by decide), if_pos (by decide), if_pos (by decide), yq_c, hb, yz_1, yq_g, if_pos rfl]
    · have hb : b = 0 := by
        rcases b2 with ⟨-, b3⟩ | ⟨b2, -⟩
        · exact absurd b3 z3
        · exact b2
      rw [z1, if_pos z2, if_neg (by decide), if_pos (by decide), if_pos (by decide), yq_c, hb, yz_0, yq_g, if_neg (by decide)]
    · have hb : b = 0 := by
        rcases b2 with ⟨-, b3⟩ | ⟨b2, -⟩
        · exact absurd b3 z3
        · exact b2
      rw [z1, if_pos z2, if_neg (by decide), if_pos (by decide), if_pos (by decide), yq_c, hb, yz_0, yq_g, if_neg (by decide)]
  · rw [e]
    rcases hz with ⟨z1, z2⟩ | ⟨z2, z1, z3⟩ | ⟨z2, z1, z3, z4⟩ | ⟨z2, z1, z3, z4⟩
    · rw [z1, if_neg z2, if_neg (by decide), if_neg (by decide), if_neg (by decide), if_neg (by decide)]
    · have hb : b = 1 := by
        rcases b2 with ⟨b2, -⟩ | ⟨-, b3⟩
        · exact b2
        · exact absurd z3 b3
      rw [z1, if_pos z2, if_neg (by decide), if_pos (by decide), if_neg (by decide), yq_c, b1, yq_c, hb, if_neg y01, if_neg (show ¬ (0 : Int32) = 1 by decide), yq_g, ite_self]
    · have hb : b = 0 := by
        rcases b2 with ⟨-, b3⟩ | ⟨b2, -⟩
        · exact absurd b3 z3
        · exact b2
      rw [z1, if_pos z2, if_neg (by decide), if_pos (by decide), if_neg (by decide), yq_c, b1, yq_c, hb, if_pos (hst0.mpr z4), if_pos y00, yq_g, if_pos rfl]
    · rw [z1, if_pos z2, if_neg (by decide), if_pos (by decide), if_neg (by decide), yq_c, if_neg (fun hh => z4 (hst0.mp hh)), yq_g, if_neg (by decide)]
  · rw [e]
    rcases hz with ⟨z1, z2⟩ | ⟨z2, z1, z3⟩ | ⟨z2, z1, z3, z4⟩ | ⟨z2, z1, z3, z4⟩
    · rw [z1, if_neg z2, if_pos rfl, if_pos rfl, if_neg (by decide), if_pos rfl]
    · rw [z1, if_pos z2, if_pos rfl, if_pos rfl, if_pos rfl, if_neg (by decide)]
    · rw [z1, if_pos z2, if_pos rfl, if_pos rfl, if_pos rfl, if_neg (by decide)]
    · rw [z1, if_pos z2, if_pos rfl, if_pos rfl, if_pos rfl, if_neg (by decide)]
end YQS
