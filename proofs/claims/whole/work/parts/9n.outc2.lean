/-! the questions: outcome, the loops -/
section YQP
variable {F n m p q t V L T : Nat} {v : Nat → Nat}
theorem yq_ol {tt S w : Nat} {B Tt kd tg : Nat → Nat} {wy : Nat → Nat → Int32} {ex : Nat → List (Nat × Int32)} {W : Nat × (Nat → Nat → Int32) × (Nat → Int32) × (Nat → Int32) × (Nat → Int32) × Nat × (Nat → Nat) × Bool} {fn : Nat → Nat} {b : Int32} (hF : 7000 < F) (hw : w < V) : ∀ d s N N' M σ τ (x3 x4 x5 : Int32), s + d = W.1 → d < N → d < N' → yQx σ τ p q V L tt S B Tt kd tg wy ex W fn → yMk σ 139 M → yMk τ 67 M → yPv M 256 (-1000) x3 x4 x5 → ∃ (σ' τ' : zs_S) (M' : Nat → Bool) (y3 y4 y5 : Int32), zf_S_markEndValues_10 F N (nI w) (nI s) σ = some σ' ∧ zf_M_outcome_63 F N' (nI w) b x3 x4 x5 (nI s) τ = (if y5 = 0 then some (1000, τ') else if b = 0 then some (y3, τ') else if b = 1 then some (y4, τ') else some (y5, τ')) ∧ yMk σ' 139 M' ∧ yPv M' 256 (-1000) y3 y4 y5 ∧ ((∀ o k, o ≠ 139 → zs_i σ' o k = zs_i σ o k) ∧ (∀ o k, zs_r σ' o k = zs_r σ o k)) ∧ (∀ o k, o ≠ 64 → o ≠ 67 → zs_i τ' o k = zs_i τ o k) ∧ (∀ o k, zs_r τ' o k = zs_r τ o k) := by
  have n1 : vp_nar .byte 1 = 1 := by decide
  have n2 : vp_nar .boolean 1 = 1 := by decide
  intro d
  induction d with
  | zero =>
    intro s N N' M σ τ x3 x4 x5 h1 h2 h3 h4 h5 h6 h7
    obtain ⟨N, rfl⟩ : ∃ q, N = q + 1 := ⟨N - 1, by omega⟩
    obtain ⟨N', rfl⟩ : ∃ q, N' = q + 1 := ⟨N' - 1, by omega⟩
    have f := h4.2.2.2.2.2.2.2.1
    have hZ := f.2.2.1.1
    refine ⟨σ, τ, M, x3, x4, x5, ?_, ?_, h5, h7, ⟨fun _ _ _ => rfl, fun _ _ => rfl⟩, fun _ _ _ _ => rfl, fun _ _ => rfl⟩
    · rw [zf_S_markEndValues_10, f.1.1.1.1.1, if_pos (nI_le (by omega) (by omega))]
    · rw [zf_M_outcome_63, f.2.1.1.1, if_pos (nI_le (by omega) (by omega))]
      rfl
  | succ d ih =>
    intro s N N' M σ τ x3 x4 x5 h1 h2 h3 h4 h5 h6 h7
    obtain ⟨N, rfl⟩ : ∃ q, N = q + 1 := ⟨N - 1, by omega⟩
    obtain ⟨N', rfl⟩ : ∃ q, N' = q + 1 := ⟨N' - 1, by omega⟩
    have f := h4.2.2.2.2.2.2.2.1
    have hS := h4.2.2.2.2.1.1
    have hZ := f.2.2.1.1
    have hs : s < W.1 := by omega
    obtain ⟨z, τ1, g1, g2, g3, g4⟩ := ym_sort (F := F) (by omega) h4 hs
    have gx := yx_sort (F := F) (x := 0) (by omega) h4 hs g4 (Or.inl rfl)
    rw [zf_S_markEndValues_10, f.1.1.1.1.1, if_neg (nI_ge hs (by omega)), gx, yq_c, zf_M_outcome_63, f.2.1.1.1, if_neg (nI_ge hs (by omega)), g1, yq_c]
    by_cases ez : z = 0
    · have hb8 := (f.2.2.1.2.1 s hs).1 w (by omega)
      obtain ⟨w', w1, w2⟩ := yby_of hb8
      obtain ⟨k0, k1, k2, k3, k4⟩ := yvk_b w' w1
      rw [← w2] at k2 k3 k4
      have hc64 : zs_i τ1 64 w = W.2.1 s w := (g3 _ (by omega)).trans (yD_v (by omega))
      have hcell := yx_cell (F := F) (k := w) f.1 hs (by omega)
      have h67 : yMk τ1 67 M := fun k hk => (g2.1 _ _ (by omega)).trans (h6 k hk)
      have e67 : zs_i τ1 67 k0 = if M k0 = true then 1 else 0 := h67 k0 k1
      obtain ⟨σ', τ', M', y3, y4, y5, z1, z2, z3, z4, ⟨z5, z6⟩, z7, z8⟩ := ih (s + 1) N N' (yub M k0) (zs_wi σ 139 k0 1) (zs_wi τ1 67 k0 1) _ _ _ (by omega) (by omega) (by omega) (yQx_F h4 (fun o k w => yt_in _ _ (by omega)) (fun _ _ => rfl) (fun o k w1 w2 => by rw [yt_in _ _ (by omega), g2.1 o k w1]) (fun o k => g2.2 o k)) (yMk_w h5) (yMk_w h67) (yPv_r h7 k1)
      refine ⟨σ', τ', M', y3, y4, y5, ?_, ?_, z3, z4, ⟨fun o k w => (z5 o k w).trans (yt_in _ _ (by omega)), z6⟩, fun o k w1 w2 => (z7 o k w1 w2).trans (by rw [yt_in _ _ (by omega), g2.1 o k w1]), fun o k => (z8 o k).trans (g2.2 o k)⟩
      · unfold zf_S_markEndValues_51
        rw [if_pos ez, if_neg y01, hcell, yq_c, k3, yn_b k1 (by decide), yq_g, nI_clamp (by omega), n1, yq_v, nI_1, yq_v]
        exact z1
      · unfold zf_M_outcome_125 zf_M_outcome_137
        rw [if_pos ez, yn_b (show w < 34 by omega) (by decide), yq_g, nI_clamp (by omega), hc64, yq_v, yq_v, yq_v, k2, yn_b k1 (by decide), yq_g, nI_clamp (by omega), e67, yq_v, yq_g, yq_g, n2, yq_v, yq_v, nI_1, yq_v, yq_v, ← z2, k4]
        cases hM : M k0 with
        | true => rw [if_pos (show true = true from rfl), if_neg (show ¬ (1 : Int32) = 0 by decide), if_pos (show true = true from rfl)]
        | false => rw [if_neg (show ¬ false = true by decide), if_pos y00, if_neg (show ¬ false = true by decide)]
    · obtain ⟨σ', τ', M', y3, y4, y5, z1, z2, z3, z4, z5, z7, z8⟩ := ih (s + 1) N N' M σ τ1 x3 x4 x5 (by omega) (by omega) (by omega) (yQx_Q h4 g2) h5 (fun k hk => (g2.1 _ _ (by omega)).trans (h6 k hk)) h7
      refine ⟨σ', τ', M', y3, y4, y5, ?_, ?_, z3, z4, z5, fun o k w1 w2 => (z7 o k w1 w2).trans (g2.1 o k w1), fun o k => (z8 o k).trans (g2.2 o k)⟩
      · unfold zf_S_markEndValues_51
        rw [if_neg ez, if_pos y00, nI_1, yq_v]
        exact z1
      · unfold zf_M_outcome_137
        rw [if_neg ez, nI_1, yq_v]
        exact z2
theorem yPv_u {M : Nat → Bool} {x3 x4 x5 y3 y4 y5 : Int32} (h : yPv M 256 1000 x3 x4 x5) (g : yPv M 256 (-1000) y3 y4 y5) : x5 = y5 ∧ ((y5 = 0 ∧ x3 = 1000 ∧ x4 = 1000) ∨ (¬ y5 = 0 ∧ x3 = y3 ∧ x4 = y4)) := by
  obtain ⟨h1, h2⟩ := h
  obtain ⟨g1, g2⟩ := g
  have hle := ycm_le (M := M) 256
  refine ⟨h1.trans g1.symm, ?_⟩
  rcases h2 with ⟨a1, a2, a3, a4⟩ | ⟨a1, ⟨lo, ⟨b1, b2, b3⟩, b4⟩, e, ⟨c1, c2, c3⟩, c4⟩
  · refine Or.inl ⟨?_, a3, a4⟩
    rw [g1, a1]
    rfl
  · rcases g2 with ⟨a1', -⟩ | ⟨-, ⟨lo', ⟨b1', b2', b3'⟩, b4'⟩, e', ⟨c1', c2', c3'⟩, c4'⟩
    · omega
    · refine Or.inr ⟨fun hh => ?_, ?_, ?_⟩
      · rw [g1] at hh
        have := (nI_eq (b := 0) (by omega) (by omega)).mp hh
        omega
      · have : lo = lo' := by
          by_cases q1 : lo < lo'
          · rw [b3' lo q1] at b2
            exact absurd b2 (by decide)
          · by_cases q2 : lo' < lo
            · rw [b3 lo' q2] at b2'
              exact absurd b2' (by decide)
            · omega
        rw [b4, b4', this]
      · have : e = e' := by
          by_cases q1 : e < e'
          · rw [c3 e' q1 c1'] at c2'
            exact absurd c2' (by decide)
          · by_cases q2 : e' < e
            · rw [c3' e q2 c1] at c2
              exact absurd c2 (by decide)
            · omega
        rw [c4, c4', this]
theorem yq_outcome {tt S : Nat} {B Tt kd tg : Nat → Nat} {wy : Nat → Nat → Int32} {ex : Nat → List (Nat × Int32)} {W : Nat × (Nat → Nat → Int32) × (Nat → Int32) × (Nat → Int32) × (Nat → Int32) × Nat × (Nat → Nat) × Bool} {fn : Nat → Nat} {σ τ : zs_S} {a b : Int32} (hF : 7000 < F) (h : yQx σ τ p q V L tt S B Tt kd tg wy ex W fn) : ∃ (r : Int32) (σ' τ' : zs_S), zf_S_outcome F a b σ = some (r, σ') ∧ zf_M_outcome F a b τ = some (r, τ') ∧ ((∀ o k, o ≠ 139 → zs_i σ' o k = zs_i σ o k) ∧ (∀ o k, zs_r σ' o k = zs_r σ o k)) ∧ (∀ o k, o ≠ 64 → o ≠ 67 → zs_i τ' o k = zs_i τ o k) ∧ (∀ o k, zs_r τ' o k = zs_r τ o k) := by
  have h' := h
  obtain ⟨hp, hq, hr6, hr2, hpp, hpc, hpm, ⟨f1, f2, f3, f4, f5, f6, f7⟩, h5, h138⟩ := h
  have hp2 := yPP_b hp
  have hq2 := yQQ_b hq
  have hS := hpp.1
  have hZ := f3.1
  unfold zf_S_outcome zf_M_outcome zf_M_outcome_36
  rw [hr6, zq_qr (by omega), yp_k hp, yq_g, h5, if_neg (show ¬ (1 : Int32) = 0 by decide), hr2, zq_qr (by omega), yv_k hq, yq_g, yv_r0 hq, zq_qr (by omega), yv_k1 hq, yq_g, hpm.1.1]
  rcases yq_var (F := F) (x := a) (τ := τ) hp (by omega) hpc.1.1 with ⟨w, k1, k2, k3, k4⟩ | ⟨k3, k4⟩
  · rw [k3, yq_c, if_neg y01, k4, yq_c, if_neg y01, k2]
    have hk0 : zq_k 0 139 1 = true := by decide +kernel
    have hz0 : (zd_sh 0 139).2 = 256 := by decide +kernel
    have hk1 : zq_k 1 67 2 = true := by decide +kernel
    have hz1 : (zd_sh 1 67).2 = 256 := by decide +kernel
    obtain ⟨σ1, a1, a2, a3, a4⟩ := yf_B0 (F := F) hk0 hz0 (by decide) 256 0 F σ (by omega) (by omega)
    obtain ⟨τ1, b1, b2, b3, b4⟩ := yf_Z1 (F := F) hk1 hz1 (by decide) 256 0 F τ (by omega) (by omega)
    have e1 : zf_Arrays_fillB0 F 139 0 σ = some σ1 := by
      unfold zf_Arrays_fillB0
      rw [hk0, yq_g, hz0, yq_v]
      exact a1
    have e2 : zf_Arrays_fillZ1 F 67 0 τ = some τ1 := by
      unfold zf_Arrays_fillZ1
      rw [hk1, yq_g, hz1, yq_v]
      exact b1
    have hQ : yQx σ1 τ1 p q V L tt S B Tt kd tg wy ex W fn := yQx_F h' (fun o k w => a3 o k (by omega)) a4 (fun o k w1 w2 => b3 o k (by omega)) b4
    have c0 : ∀ n, ycm (fun _ => false) n = 0 := by
      intro n
      induction n with
      | zero => rfl
      | succ n ih =>
        show ycm (fun _ => false) n + (if false = true then 1 else 0) = 0
        rw [ih, if_neg (by decide)]
    obtain ⟨σ2, τ2, M, y3, y4, y5, z1, z2, z3, z4, ⟨z5, z6⟩, z7, z8⟩ := yq_ol (F := F) (b := b) hF k1 W.1 0 F F (fun _ => false) σ1 τ1 1000 (-1000) 0 (by omega) (by omega) (by omega) hQ (fun k hk => by rw [a2 k (by omega) hk, if_neg (show ¬ false = true by decide)]) (fun k hk => by rw [b2 k (by omega) hk, if_neg (show ¬ false = true by decide)]) ⟨by rw [c0]; rfl, Or.inl ⟨c0 256, fun _ _ => rfl, rfl, rfl⟩⟩
    obtain ⟨u3, u4, u5, s1, s2⟩ := yx_scan (F := F) (b := b) z3 256 0 F 1000 1000 0 (by omega) (by omega) ⟨rfl, Or.inl ⟨rfl, fun k hk => by omega, rfl, rfl⟩⟩
    obtain ⟨v5, v34⟩ := yPv_u s2 z4
    have ec : zf_S_markEndValues F (nI w) σ = some σ2 := by
      unfold zf_S_markEndValues
      rw [e1, yq_s]
      exact z1
    have s1' : zf_S_outcome_35 F F b 1000 1000 0 0 σ2 = (if b = 0 then some (u3, σ2) else if b = 1 then some (u4, σ2) else if b = 2 then (if u5 = 0 then some (1000, σ2) else some (u5, σ2)) else some (1000, σ2)) := s1
    have z2' : zf_M_outcome_63 F F (nI w) b 1000 (-1000) 0 0 τ1 = (if y5 = 0 then some (1000, τ2) else if b = 0 then some (y3, τ2) else if b = 1 then some (y4, τ2) else some (y5, τ2)) := z2
    have fr1 : (∀ o k, o ≠ 139 → zs_i σ2 o k = zs_i σ o k) ∧ (∀ o k, zs_r σ2 o k = zs_r σ o k) := ⟨fun o k w => (z5 o k w).trans (a3 o k (by omega)), fun o k => (z6 o k).trans (a4 o k)⟩
    have fr2 : (∀ o k, o ≠ 64 → o ≠ 67 → zs_i τ2 o k = zs_i τ o k) ∧ (∀ o k, zs_r τ2 o k = zs_r τ o k) := ⟨fun o k w1 w2 => (z7 o k w1 w2).trans (b3 o k (by omega)), fun o k => (z8 o k).trans (b4 o k)⟩
    rw [ec, yq_s, s1']
    have hin := yq_in (F := F) (x := b) (τ := τ) (Z := 3) (by omega)
    rcases hin with ⟨k, j1, j2, j3, j4, j5, j6⟩ | ⟨j6, hx⟩
    · have j6' : zf_M_in F b 0 2 τ = some (1, τ) := j6
      rw [j6', yq_c, if_neg y01, e2, yq_s, z2']
      have hk : k = 0 ∨ k = 1 ∨ k = 2 := by omega
      rcases hk with e | e | e
      · rw [show b = (0 : Int32) from by rw [j2, e]; rfl, if_pos rfl, if_pos rfl]
        rcases v34 with ⟨w1, w2, w3⟩ | ⟨w1, w2, w3⟩
        · rw [if_pos w1, w2]
          exact ⟨_, _, _, rfl, rfl, fr1, fr2⟩
        · rw [if_neg w1, w2]
          exact ⟨_, _, _, rfl, rfl, fr1, fr2⟩
      · rw [show b = (1 : Int32) from by rw [j2, e]; rfl, if_neg (show ¬ (1 : Int32) = 0 by decide), if_neg (show ¬ (1 : Int32) = 0 by decide), if_pos rfl, if_pos rfl]
        rcases v34 with ⟨w1, w2, w3⟩ | ⟨w1, w2, w3⟩
        · rw [if_pos w1, w3]
          exact ⟨_, _, _, rfl, rfl, fr1, fr2⟩
        · rw [if_neg w1, w3]
          exact ⟨_, _, _, rfl, rfl, fr1, fr2⟩
      · rw [show b = (2 : Int32) from by rw [j2, e]; rfl, if_neg (show ¬ (2 : Int32) = 0 by decide), if_neg (show ¬ (2 : Int32) = 0 by decide), if_neg (show ¬ (2 : Int32) = 1 by decide), if_neg (show ¬ (2 : Int32) = 1 by decide), if_pos rfl, v5]
        rcases v34 with ⟨w1, w2, w3⟩ | ⟨w1, w2, w3⟩
        · rw [if_pos w1, if_pos w1]
          exact ⟨_, _, _, rfl, rfl, fr1, fr2⟩
        · rw [if_neg w1, if_neg w1]
          exact ⟨_, _, _, rfl, rfl, fr1, fr2⟩
    · have j6' : zf_M_in F b 0 2 τ = some (0, τ) := j6
      have hne : ∀ j, j < 3 → b ≠ nI j := fun j hj e => by
        rcases hx with hx | ⟨-, hx, -⟩
        · rw [e] at hx
          exact nI_pos (by omega) hx
        · rw [e] at hx
          exact nI_ge hj (by omega) hx
      rw [j6', yq_c, if_pos y00, if_neg (show ¬ b = 0 from hne 0 (by omega)), if_neg (show ¬ b = 1 from hne 1 (by omega)), if_neg (show ¬ b = 2 from hne 2 (by omega))]
      exact ⟨_, _, _, rfl, rfl, fr1, fun _ _ _ _ => rfl, fun _ _ => rfl⟩
  · rw [k3, yq_c, if_pos y00, k4, yq_c, if_pos y00]
    exact ⟨_, _, _, rfl, rfl, ⟨fun _ _ _ => rfl, fun _ _ => rfl⟩, fun _ _ _ _ => rfl, fun _ _ => rfl⟩
end YQP
