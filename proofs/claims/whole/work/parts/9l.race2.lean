/-! the questions: race, the loops -/
section YQT
variable {F n m p q t V L T : Nat} {v : Nat → Nat}
theorem yq_rc1 {tt S s w : Nat} {B Tt kd tg : Nat → Nat} {wy : Nat → Nat → Int32} {ex : Nat → List (Nat × Int32)} {W : Nat × (Nat → Nat → Int32) × (Nat → Int32) × (Nat → Int32) × (Nat → Int32) × Nat × (Nat → Nat) × Bool} {fn : Nat → Nat} {σ τ : zs_S} {k32 : Int32 → Int32 → zs_S → Option (Int32 × zs_S)} (hF : 7000 < F) (h : yQx σ τ p q V L tt S B Tt kd tg wy ex W fn) (hs : s < W.1) (hw : w < V) (hnow : ∀ j, j < 34 → zs_i τ 64 j = yD tt (W.2.1 s) j) : ∃ b : Int32, zf_Explorer_isRace F (nI s) (nI w) σ = some (b, σ) ∧ ((b = 1 ∧ zf_M_race_53 F k32 F (nI w) (nI s) 0 0 0 τ = some (nI s, τ)) ∨ (b = 0 ∧ zf_M_race_53 F k32 F (nI w) (nI s) 0 0 0 τ = k32 (nI w) (nI (s + 1)) τ)) := by
  obtain ⟨hp, hq, hr6, hr2, hpp, hpc, hpm, ⟨f1, f2, f3, f4, f5, f6, f7⟩, h5, h138⟩ := h
  have hp2 := yPP_b hp
  have hq2 := yQQ_b hq
  have hS := hpp.1
  have hZ := f3.1
  have hv := f3.2.1 s hs
  have hcc : zf_States_cell F (nI s) 32 σ = some (W.2.1 s 32, σ) := yx_cell (k := 32) f1 hs (by decide)
  by_cases h32 : W.2.1 s 32 = 0
  · -- threads
    have loop : ∀ d j N N' (c3 c4 : Int32), j + d = tt → d < N → d < N' → ∃ b : Int32, zf_Explorer_isRace_23 F N (nI s) (nI w) c3 c4 (nI j) σ = some (b, σ) ∧ ((b = 1 ∧ zf_M_race_53 F k32 N' (nI w) (nI s) c3 c4 (nI j) τ = some (nI s, τ)) ∨ (b = 0 ∧ zf_M_race_53 F k32 N' (nI w) (nI s) c3 c4 (nI j) τ = k32 (nI w) (nI (s + 1)) τ)) := by
      intro d
      induction d with
      | zero =>
        intro j N N' c3 c4 h1 h2 h3
        obtain ⟨N, rfl⟩ : ∃ q, N = q + 1 := ⟨N - 1, by omega⟩
        obtain ⟨N', rfl⟩ : ∃ q, N' = q + 1 := ⟨N' - 1, by omega⟩
        rw [zf_Explorer_isRace_23, zf_M_race_53, h138, zq_qr (by omega), yp_k hp, yq_g, hpc.1.2.2.1, hr2, zq_qr (by omega), yv_k hq, yq_g, hpm.1.2.2.1, if_pos (nI_le (by omega) (by omega)), if_pos (nI_le (by omega) (by omega))]
        unfold zf_Explorer_isRace_139 zf_Explorer_isRace_140 zf_M_race_168
        rw [yz_0, yz_1, yq_g, yq_g, nI_1, yq_v]
        by_cases e3 : c3 ≤ 1
        · rw [if_pos e3, if_pos e3]
          exact ⟨0, rfl, Or.inr ⟨rfl, rfl⟩⟩
        · rw [if_neg e3, if_neg e3]
          by_cases e4 : c4 ≤ 0
          · rw [if_pos e4, if_pos e4]
            exact ⟨0, rfl, Or.inr ⟨rfl, rfl⟩⟩
          · rw [if_neg e4, if_neg e4]
            exact ⟨1, rfl, Or.inl ⟨rfl, rfl⟩⟩
      | succ d ih =>
        intro j N N' c3 c4 h1 h2 h3
        obtain ⟨N, rfl⟩ : ∃ q, N = q + 1 := ⟨N - 1, by omega⟩
        obtain ⟨N', rfl⟩ : ∃ q, N' = q + 1 := ⟨N' - 1, by omega⟩
        have hjt : j < tt := by omega
        obtain ⟨b, b1, b2⟩ := yx_ready (F := F) hp hpp hpc f1 h138 hs hjt hv
        obtain ⟨b', b1', b2'⟩ := ym_rdy (F := F) (s := 0) (t' := 0) (W := W) hq hpp hpm hnow hr2 hjt hv
        have c4' : zs_i τ 64 (12 + 5 * j + 4) = W.2.1 s (16 + j) := (hnow _ (by omega)).trans (yD_md (by omega))
        have c3' : zs_i τ 64 (12 + 5 * j + 3) = W.2.1 s (12 + j) := (hnow _ (by omega)).trans (yD_pl hjt (by omega))
        rw [zf_Explorer_isRace_23, zf_M_race_53, h138, zq_qr (by omega), yp_k hp, yq_g, hpc.1.2.2.1, hr2, zq_qr (by omega), yv_k hq, yq_g, hpm.1.2.2.1, if_neg (nI_ge hjt (by omega)), if_neg (nI_ge hjt (by omega)), show (16 : Int32) + nI j = nI (16 + j) from nI_add 16 j, yx_cell f1 hs (by omega), yq_c, b1', yq_c]
        have nx : ∀ (y3 y4 : Int32), zf_Explorer_isRace_119 F (zf_Explorer_isRace_23 F N) (nI s) (nI w) y3 y4 (nI j) σ = zf_Explorer_isRace_23 F N (nI s) (nI w) y3 y4 (nI (j + 1)) σ ∧ zf_M_race_150 F k32 (zf_M_race_53 F k32 N') (nI w) (nI s) y3 y4 (nI j) τ = zf_M_race_53 F k32 N' (nI w) (nI s) y3 y4 (nI (j + 1)) τ := fun y3 y4 => by
          unfold zf_Explorer_isRace_119 zf_M_race_150
          rw [nI_1, yq_v, yq_v]
          exact ⟨rfl, rfl⟩
        have skip := ih (j + 1) N N' c3 c4 (by omega) (by omega) (by omega)
        unfold zf_Explorer_isRace_57 zf_M_each
        rw [b1, yq_c, yq_c, yq_c, show (12 : Int32) + 5 * nI j + 4 = nI (12 + 5 * j + 4) from yn_ea j 4, yn_b (show 12 + 5 * j + 4 < 34 by omega) (by decide), yq_g, nI_clamp (by omega), c4', (nx c3 c4).1, (nx c3 c4).2]
        by_cases hrd : yrd kd tg (W.2.1 s) j
        · have hb : b = 1 := by
            rcases b2 with ⟨e, -⟩ | ⟨-, e⟩
            · exact e
            · exact absurd hrd e
          have hb' : b' = 1 := by
            rcases b2' with ⟨e, -⟩ | ⟨-, e⟩
            · exact e
            · exact absurd ⟨h32, hrd⟩ e
          rw [if_neg (show ¬ b' = 0 by rw [hb']; decide), hb, if_neg y01, if_neg y01]
          by_cases m2 : W.2.1 s (16 + j) = 2
          · rw [if_pos m2, if_pos m2]
            exact skip
          · rw [if_neg m2, if_neg m2, if_pos y00]
            obtain ⟨x, x1, x2, x3⟩ : ∃ y, B j ≤ y ∧ y < B (j + 1) ∧ W.2.1 s (12 + j) = nI y := by
              rcases hv.2.2.1 j hjt with hh | hh
              · exact absurd hh hrd.1
              · exact hh
            have hx50 : x < 50 := by
              have := hpp.2.1.2.2.2 (j + 1) (by omega)
              omega
            have hT3 := hpp.2.2.1 j hjt
            obtain ⟨q1, q2, -⟩ := hpp.2.2.2 j x hjt x1 x2
            obtain ⟨rc1, rc2, -⟩ := hpc.2.2 j x hjt x1 x2
            obtain ⟨rm1, rm2, -⟩ := hpm.2.2 j x hjt x1 x2
            obtain ⟨u, u1, u2⟩ := yq_uses (F := F) hp hpp hpc hjt x1 x2 hw
            obtain ⟨u', u1', u2'⟩ := ym_has (F := F) hq hF hpp hpm hr2 hjt x1 x2 hw
            -- who assigns
            have has : zf_Statement_assigns F (p + 5 + x) (nI w) σ = some (if kd x = 0 ∧ tg x = w then 1 else 0, σ) := by
              unfold zf_Statement_assigns zf_Statement_assigns_22 zf_Statement_assigns_23
              rw [yp_sk hp hx50, yq_g, rc1, zq_qr (by omega), yn_12 (by omega), yq_g, yz_0, yz_1, yq_g, yq_g]
              by_cases k0 : kd x = 0
              · have htg := q2 k0
                rw [if_pos (by omega), rc2 (by omega)]
                by_cases hw2 : tg x = w
                · rw [if_pos (show nI (tg x) = nI w by rw [hw2]), if_pos ⟨k0, hw2⟩]
                · rw [if_neg (fun hh => hw2 ((nI_eq (by omega) (by omega)).mp hh)), if_neg (fun hh => hw2 hh.2)]
              · rw [if_neg (by omega), if_neg (fun hh => k0 hh.1)]
            have ham : ∀ y3, zf_M_race_120 F k32 (zf_M_race_53 F k32 N') (nI w) (nI s) y3 c4 (nI j) (nI x) τ = if kd x = 0 ∧ tg x = w then zf_M_race_53 F k32 N' (nI w) (nI s) y3 (c4 + 1) (nI (j + 1)) τ else zf_M_race_53 F k32 N' (nI w) (nI s) y3 c4 (nI (j + 1)) τ := by
              intro y3
              unfold zf_M_race_120
              rw [hr2, zq_qr (by omega), yv_k hq, yq_g, yv_r7 hq, zq_qr (by omega), yv_k10 hq, yq_g, yv_z10 hq, yn_b hx50 (by decide), yq_g, nI_clamp (by omega), rm1, zq_qr (by omega), yv_k hq, yq_g, yv_r8 hq, zq_qr (by omega), yv_k11 hq, yq_g, yv_z11 hq, yn_b hx50 (by decide), yq_g, yq_v, (nx y3 c4).2, (nx y3 (c4 + 1)).2]
              by_cases k0 : kd x = 0
              · have htg := q2 k0
                rw [if_pos (show nI (kd x) = (0 : Int32) by rw [k0]; rfl), rm2 k0]
                by_cases h8 : tg x < 8
                · rw [if_pos h8]
                  by_cases hw2 : tg x = w
                  · rw [if_pos (show nI (tg x) = nI w by rw [hw2]), if_pos ⟨k0, hw2⟩]
                  · rw [if_neg (fun hh => hw2 ((nI_eq (by omega) (by omega)).mp hh)), if_neg (fun hh => hw2 hh.2)]
                · rw [if_neg h8, if_neg (fun hh => by have := (nI_eq (by omega) (by omega)).mp hh; omega), if_neg (fun hh => by omega)]
              · rw [if_neg (show ¬ nI (kd x) = (0 : Int32) from fun hh => k0 ((nI_eq (b := 0) (by omega) (by omega)).mp hh)), if_neg (fun hh => k0 hh.1)]
            have hac : ∀ (t0 : Int32), zf_Explorer_isRace_98 F (zf_Explorer_isRace_23 F N) (nI s) (nI w) c4 (nI j) (p + 5 + x) t0 c3 σ = if kd x = 0 ∧ tg x = w then zf_Explorer_isRace_23 F N (nI s) (nI w) (c3 + t0) (c4 + 1) (nI (j + 1)) σ else zf_Explorer_isRace_23 F N (nI s) (nI w) (c3 + t0) c4 (nI (j + 1)) σ := by
              intro t0
              unfold zf_Explorer_isRace_98 zf_Explorer_isRace_116
              rw [yq_v, yp_sk hp hx50, yq_g, has, yq_c, yq_v, yq_v, (nx (c3 + t0) (c4 + 1)).1, show c4 + 0 = c4 from Int32.add_zero c4, (nx (c3 + t0) c4).1]
              by_cases k0 : kd x = 0 ∧ tg x = w
              · rw [if_pos k0, if_pos k0, if_neg y01]
              · rw [if_neg k0, if_neg k0, if_pos y00]
            rw [yx_next hp f1 h138 hs (by omega) hx50 x3, yq_c, yp_sk hp hx50, yq_g, u1, yq_c, hac, hac, yq_c, show (12 : Int32) + 5 * nI j + 3 = nI (12 + 5 * j + 3) from yn_ea j 3, yn_b (show 12 + 5 * j + 3 < 34 by omega) (by decide), yq_g, nI_clamp (by omega), c3', x3, yq_v, u1', yq_c, ham, yq_v, ham, show c3 + 0 = c3 from Int32.add_zero c3]
            have fin : ∀ y3 : Int32, ∃ b : Int32, (if kd x = 0 ∧ tg x = w then zf_Explorer_isRace_23 F N (nI s) (nI w) y3 (c4 + 1) (nI (j + 1)) σ else zf_Explorer_isRace_23 F N (nI s) (nI w) y3 c4 (nI (j + 1)) σ) = some (b, σ) ∧ ((b = 1 ∧ (if kd x = 0 ∧ tg x = w then zf_M_race_53 F k32 N' (nI w) (nI s) y3 (c4 + 1) (nI (j + 1)) τ else zf_M_race_53 F k32 N' (nI w) (nI s) y3 c4 (nI (j + 1)) τ) = some (nI s, τ)) ∨ (b = 0 ∧ (if kd x = 0 ∧ tg x = w then zf_M_race_53 F k32 N' (nI w) (nI s) y3 (c4 + 1) (nI (j + 1)) τ else zf_M_race_53 F k32 N' (nI w) (nI s) y3 c4 (nI (j + 1)) τ) = k32 (nI w) (nI (s + 1)) τ)) := by
              intro y3
              by_cases k0 : kd x = 0 ∧ tg x = w
              · rw [if_pos k0, if_pos k0]
                exact ih (j + 1) N N' y3 (c4 + 1) (by omega) (by omega) (by omega)
              · rw [if_neg k0, if_neg k0]
                exact ih (j + 1) N N' y3 c4 (by omega) (by omega) (by omega)
            by_cases hu : yus kd tg ex x w
            · have hu1 : u = 1 := by
                rcases u2 with ⟨e, -⟩ | ⟨-, e⟩
                · exact e
                · exact absurd hu e
              have hu1' : u' = 1 := by
                rcases u2' with ⟨e, -⟩ | ⟨-, e⟩
                · exact e
                · exact absurd hu e
              rw [if_neg (show ¬ u = 0 by rw [hu1]; decide), if_neg (show ¬ u' = 0 by rw [hu1']; decide)]
              exact fin (c3 + 1)
            · have hu1 : u = 0 := by
                rcases u2 with ⟨-, e⟩ | ⟨e, -⟩
                · exact absurd e hu
                · exact e
              have hu1' : u' = 0 := by
                rcases u2' with ⟨-, e⟩ | ⟨e, -⟩
                · exact absurd e hu
                · exact e
              rw [if_pos hu1, if_pos hu1']
              exact fin c3
        · have hb : b = 0 := by
            rcases b2 with ⟨-, e⟩ | ⟨e, -⟩
            · exact absurd e hrd
            · exact e
          have hb' : b' = 0 := by
            rcases b2' with ⟨-, -, e⟩ | ⟨e, -⟩
            · exact absurd e hrd
            · exact e
          rw [if_pos hb', hb, if_pos y00, if_pos y00, ite_self]
          exact skip
    unfold zf_Explorer_isRace
    rw [hcc, yq_c, if_pos h32]
    exact loop tt 0 F F 0 0 (by omega) (by omega) (by omega)
  · have loop : ∀ d j N', j + d = tt → d < N' → zf_M_race_53 F k32 N' (nI w) (nI s) 0 0 (nI j) τ = k32 (nI w) (nI (s + 1)) τ := by
      intro d
      induction d with
      | zero =>
        intro j N' h1 h3
        obtain ⟨N', rfl⟩ : ∃ q, N' = q + 1 := ⟨N' - 1, by omega⟩
        rw [zf_M_race_53, hr2, zq_qr (by omega), yv_k hq, yq_g, hpm.1.2.2.1, if_pos (nI_le (by omega) (by omega)), if_pos (by decide)]
        unfold zf_M_race_168
        rw [nI_1, yq_v]
      | succ d ih =>
        intro j N' h1 h3
        obtain ⟨N', rfl⟩ : ∃ q, N' = q + 1 := ⟨N' - 1, by omega⟩
        have hjt : j < tt := by omega
        obtain ⟨b', b1', b2'⟩ := ym_rdy (F := F) (s := 0) (t' := 0) (W := W) hq hpp hpm hnow hr2 hjt hv
        have hb' : b' = 0 := by
          rcases b2' with ⟨-, e, -⟩ | ⟨e, -⟩
          · exact absurd e h32
          · exact e
        rw [zf_M_race_53, hr2, zq_qr (by omega), yv_k hq, yq_g, hpm.1.2.2.1, if_neg (nI_ge hjt (by omega)), b1', yq_c, if_pos hb']
        unfold zf_M_race_150
        rw [nI_1, yq_v]
        exact ih (j + 1) N' (by omega) (by omega)
    unfold zf_Explorer_isRace
    rw [hcc, yq_c, if_neg h32]
    exact ⟨0, rfl, Or.inr ⟨rfl, loop tt 0 F (by omega) (by omega)⟩⟩
theorem yq_race {tt S : Nat} {B Tt kd tg : Nat → Nat} {wy : Nat → Nat → Int32} {ex : Nat → List (Nat × Int32)} {W : Nat × (Nat → Nat → Int32) × (Nat → Int32) × (Nat → Int32) × (Nat → Int32) × Nat × (Nat → Nat) × Bool} {fn : Nat → Nat} {σ τ : zs_S} {a : Int32} (hF : 7000 < F) (h : yQx σ τ p q V L tt S B Tt kd tg wy ex W fn) : yAq (zf_S_race F a σ) (zf_M_race F a τ) σ τ := by
  have h' := h
  obtain ⟨hp, hq, hr6, hr2, hpp, hpc, hpm, ⟨f1, f2, f3, f4, f5, f6, f7⟩, h5, h138⟩ := h
  have hp2 := yPP_b hp
  have hq2 := yQQ_b hq
  have hS := hpp.1
  have hZ := f3.1
  unfold zf_S_race zf_M_race zf_M_race_27
  rw [hr6, zq_qr (by omega), yp_k hp, yq_g, h5, if_neg (show ¬ (1 : Int32) = 0 by decide), hr2, zq_qr (by omega), yv_k hq, yq_g, yv_r0 hq, zq_qr (by omega), yv_k1 hq, yq_g, hpm.1.1]
  rcases yq_var (F := F) (x := a) (τ := τ) hp (by omega) hpc.1.1 with ⟨w, k1, k2, k3, k4⟩ | ⟨k3, k4⟩
  · rw [k3, yq_c, if_neg y01, k4, yq_c, if_neg y01, k2]
    have loop : ∀ d s N N' τ, s + d = W.1 → d < N → d < N' → yQx σ τ p q V L tt S B Tt kd tg wy ex W fn → yAq (zf_S_race_16 F N (nI w) (nI s) σ) (zf_M_race_32 F N' (nI w) (nI s) τ) σ τ := by
      intro d
      induction d with
      | zero =>
        intro s N N' τ h1 h2 h3 h4
        obtain ⟨N, rfl⟩ : ∃ q, N = q + 1 := ⟨N - 1, by omega⟩
        obtain ⟨N', rfl⟩ : ∃ q, N' = q + 1 := ⟨N' - 1, by omega⟩
        have f := h4.2.2.2.2.2.2.2.1
        rw [zf_S_race_16, zf_M_race_32, f.1.1.1.1.1, f.2.1.1.1, if_pos (nI_le (by omega) (by omega)), if_pos (nI_le (by omega) (by omega))]
        exact ⟨-2, τ, rfl, rfl, yfQ_r τ⟩
      | succ d ih =>
        intro s N N' τ h1 h2 h3 h4
        obtain ⟨N, rfl⟩ : ∃ q, N = q + 1 := ⟨N - 1, by omega⟩
        obtain ⟨N', rfl⟩ : ∃ q, N' = q + 1 := ⟨N' - 1, by omega⟩
        have f := h4.2.2.2.2.2.2.2.1
        obtain ⟨τ1, a1, a2, a3⟩ := ym_load (F := F) f.2.1 (show s < W.1 by omega) hZ
        obtain ⟨b, b1, b2⟩ := yq_rc1 (F := F) (k32 := zf_M_race_32 F N') hF (yQx_Q h4 a2) (show s < W.1 by omega) k1 a3
        rw [zf_S_race_16, zf_M_race_32, f.1.1.1.1.1, f.2.1.1.1, if_neg (nI_ge (by omega) (by omega)), if_neg (nI_ge (by omega) (by omega)), b1, yq_c, a1, yq_s]
        rcases b2 with ⟨b2, b3⟩ | ⟨b2, b3⟩
        · rw [if_neg (by rw [b2]; decide), b3]
          exact ⟨nI s, τ1, rfl, rfl, a2⟩
        · rw [if_pos b2, b3, nI_1, yq_v]
          exact yAq_t a2 (ih (s + 1) N N' τ1 (by omega) (by omega) (by omega) (yQx_Q h4 a2))
    exact loop W.1 0 F F τ (by omega) (by omega) (by omega) h'
  · rw [k3, yq_c, if_pos y00, k4, yq_c, if_pos y00]
    exact ⟨-2, τ, rfl, rfl, yfQ_r τ⟩
end YQT
