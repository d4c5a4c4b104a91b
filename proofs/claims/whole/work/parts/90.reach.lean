/-! explorer: the reference's reach -/
section YRX
variable {F n m p q t V L T : Nat} {v : Nat → Nat}
def yXt (τ : zs_S) (tt : Nat) (X : Nat → Int32) : Prop := ∀ j, j < 34 → zs_i τ 65 j = yD tt X j
theorem ym_iss {tt Z u : Nat} {R : Nat → Nat → Int32} {X : Nat → Int32} {τ : zs_S} (hr : ∀ s j, s < Z → j < 34 → zs_i τ 58 (34 * s + j) = yD tt (R s) j) (hX : yXt τ tt X) (hu : u < Z) (hZ : Z ≤ 800) (h0 : ∀ t, tt ≤ t → t < 4 → R u (12 + t) = 0 ∧ X (12 + t) = 0) (hF : 100 < F) : ∃ b : Int32, zf_M_isState F (nI u) τ = some (b, τ) ∧ ((b = 1 ∧ ∀ k, k < 34 → R u k = X k) ∨ (b = 0 ∧ ¬ ∀ k, k < 34 → R u k = X k)) := by
  have loop : ∀ d i N, 34 - i ≤ d → i ≤ 34 → d < N → ∃ b : Int32, zf_M_isState_2 F N (nI u) (nI i) τ = some (b, τ) ∧ ((b = 1 ∧ ∀ k, i ≤ k → k < 34 → yD tt (R u) k = yD tt X k) ∨ (b = 0 ∧ ¬ ∀ k, i ≤ k → k < 34 → yD tt (R u) k = yD tt X k)) := by
    intro d
    induction d with
    | zero =>
      intro i N h1 h2 h3
      obtain ⟨N, rfl⟩ : ∃ q, N = q + 1 := ⟨N - 1, by omega⟩
      have : i = 34 := by omega
      subst this
      exact ⟨1, by rw [zf_M_isState_2, if_pos (by decide)], Or.inl ⟨rfl, fun k k1 k2 => by omega⟩⟩
    | succ d ih =>
      intro i N h1 h2 h3
      obtain ⟨N, rfl⟩ : ∃ q, N = q + 1 := ⟨N - 1, by omega⟩
      by_cases hi : i = 34
      · subst hi
        exact ⟨1, by rw [zf_M_isState_2, if_pos (by decide)], Or.inl ⟨rfl, fun k k1 k2 => by omega⟩⟩
      · have e1 : zf_M_isState_2 F (N + 1) (nI u) (nI i) τ = if yD tt (R u) i = yD tt X i then zf_M_isState_2 F N (nI u) (nI (i + 1)) τ else some (0, τ) := by
          rw [zf_M_isState_2, if_neg (show ¬ (34 : Int32) ≤ nI i from nI_ge (a := i) (b := 34) (by omega) (by omega)), show (34 : Int32) * nI u = nI (34 * u) from yn_mul 34 u, nI_add, yn_b (show 34 * u + i < 27234 by omega) (by decide), yq_g, yn_b (show i < 34 by omega) (by decide), yq_g, nI_clamp (by omega), nI_clamp (by omega), hr u i hu (by omega), hX i (by omega), nI_1, yq_v]
        by_cases he : yD tt (R u) i = yD tt X i
        · obtain ⟨b, b1, b2⟩ := ih (i + 1) N (by omega) (by omega) (by omega)
          refine ⟨b, by rw [e1, if_pos he, b1], ?_⟩
          rcases b2 with ⟨b2, b3⟩ | ⟨b2, b3⟩
          · refine Or.inl ⟨b2, fun k k1 k2 => ?_⟩
            by_cases hk : k = i
            · subst hk
              exact he
            · exact b3 k (by omega) k2
          · exact Or.inr ⟨b2, fun hh => b3 (fun k k1 k2 => hh k (by omega) k2)⟩
        · exact ⟨0, by rw [e1, if_neg he], Or.inr ⟨rfl, fun hh => he (hh i (Nat.le_refl i) (by omega))⟩⟩
  obtain ⟨b, b1, b2⟩ := loop 40 0 F (by omega) (by omega) (by omega)
  refine ⟨b, b1, ?_⟩
  rcases b2 with ⟨b2, b3⟩ | ⟨b2, b3⟩
  · exact Or.inl ⟨b2, (yD_eq h0).mp (fun k hk => b3 k (by omega) hk)⟩
  · exact Or.inr ⟨b2, fun hh => b3 (fun k _ hk => (yD_eq h0).mpr hh k hk)⟩
/-- what reach leaves alone -/
def yfR (Z K : Nat) (τ τ' : zs_S) : Prop := (∀ o k, ¬ (o = 1 ∧ (k = 23 ∨ k = 24)) → ¬ (o = 58 ∧ 34 * Z ≤ k) → ¬ ((o = 59 ∨ o = 60 ∨ o = 61) ∧ k = Z) → ¬ (o = 63 ∧ k = K) → zs_i τ' o k = zs_i τ o k) ∧ (∀ o k, zs_r τ' o k = zs_r τ o k)
theorem ym_find2 {tt Z : Nat} {R : Nat → Nat → Int32} {X : Nat → Int32} {τ : zs_S} (hz : zs_i τ 1 23 = nI Z) (hZ : Z ≤ 800) (hr : ∀ s j, s < Z → j < 34 → zs_i τ 58 (34 * s + j) = yD tt (R s) j) (hX : yXt τ tt X) (h0 : ∀ u t, u < Z → tt ≤ t → t < 4 → R u (12 + t) = 0 ∧ X (12 + t) = 0) (hF : 900 < F) : (∃ u, u < Z ∧ (∀ k, k < 34 → R u k = X k) ∧ zf_M_reach F τ = zf_M_reach_24 F (nI u) τ) ∨ ((∀ u, u < Z → ¬ ∀ k, k < 34 → R u k = X k) ∧ zf_M_reach F τ = zf_M_reach_24 F (nI Z) τ) := by
  have loop : ∀ d i N, Z - i ≤ d → i ≤ Z → d < N → (∀ u, u < i → ¬ ∀ k, k < 34 → R u k = X k) → (∃ u, u < Z ∧ (∀ k, k < 34 → R u k = X k) ∧ zf_M_reach_2 F N (nI i) τ = zf_M_reach_24 F (nI u) τ) ∨ ((∀ u, u < Z → ¬ ∀ k, k < 34 → R u k = X k) ∧ zf_M_reach_2 F N (nI i) τ = zf_M_reach_24 F (nI Z) τ) := by
    intro d
    induction d with
    | zero =>
      intro i N h1 h2 h3 h4
      obtain ⟨N, rfl⟩ : ∃ q, N = q + 1 := ⟨N - 1, by omega⟩
      have : i = Z := by omega
      subst this
      exact Or.inr ⟨h4, by rw [zf_M_reach_2, hz, if_pos (nI_le (Nat.le_refl _) (by omega))]⟩
    | succ d ih =>
      intro i N h1 h2 h3 h4
      obtain ⟨N, rfl⟩ : ∃ q, N = q + 1 := ⟨N - 1, by omega⟩
      by_cases hi : i = Z
      · subst hi
        exact Or.inr ⟨h4, by rw [zf_M_reach_2, hz, if_pos (nI_le (Nat.le_refl _) (by omega))]⟩
      · obtain ⟨b, b1, b2⟩ := ym_iss (F := F) hr hX (show i < Z by omega) hZ (fun t h5 h6 => h0 i t (by omega) h5 h6) (by omega)
        have e1 : zf_M_reach_2 F (N + 1) (nI i) τ = if b = 0 then zf_M_reach_2 F N (nI (i + 1)) τ else zf_M_reach_24 F (nI i) τ := by
          rw [zf_M_reach_2, hz, if_neg (nI_ge (by omega) (by omega)), b1, yq_c, nI_1, yq_v]
        rcases b2 with ⟨b2, b3⟩ | ⟨b2, b3⟩
        · exact Or.inl ⟨i, by omega, b3, by rw [e1, b2, if_neg y01]⟩
        · rw [e1, b2, if_pos y00]
          refine ih (i + 1) N (by omega) (by omega) (by omega) (fun u hu => ?_)
          by_cases hui : u = i
          · subst hui
            exact b3
          · exact h4 u (by omega)
  exact loop Z 0 F (by omega) (by omega) (by omega) (fun u hu => by omega)
theorem ym_reach {tt Z s K : Nat} {R : Nat → Nat → Int32} {dp pa mv : Nat → Int32} {sp : Nat → Nat} {X : Nat → Int32} {x2 : Int32} {τ : zs_S} (h : yWm τ tt Z R dp pa mv K sp) (hX : yXt τ tt X) (h0 : ∀ u t, u < Z → tt ≤ t → t < 4 → R u (12 + t) = 0 ∧ X (12 + t) = 0) (hat : zs_i τ 1 28 = nI s) (hth : zs_i τ 1 29 = x2) (hs : s < Z) (hK : K < 3200) (hF : 900 < F) : ∃ (r : Int32) (τ' : zs_S), zf_M_reach F τ = some (r, τ') ∧ yfR Z K τ τ' ∧ ((∃ u, u < Z ∧ (∀ k, k < 34 → R u k = X k) ∧ r = 1 ∧ yWm τ' tt Z R dp pa mv (K + 1) (yup sp K u)) ∨ ((∀ u, u < Z → ¬ ∀ k, k < 34 → R u k = X k) ∧ ((Z = 800 ∧ r = 0 ∧ τ' = τ) ∨ (Z < 800 ∧ r = 1 ∧ yWm τ' tt (Z + 1) (yRu R Z X) (yU dp Z (dp s + 1)) (yU pa Z (nI s)) (yU mv Z x2) (K + 1) (yup sp K Z))))) := by
  obtain ⟨⟨hz, hZ⟩, hr, hd, hk, hst⟩ := h
  have e132 : ∀ (u : Nat) (τ1 : zs_S), zs_i τ1 1 28 = nI s → zs_i τ1 1 24 = nI K → zf_M_reach_132 F (nI u) τ1 = some (1, zs_wi (zs_wi τ1 63 K (nI u)) 1 24 (nI (K + 1))) := by
    intro u τ1 h1 h2
    have w : zs_i (zs_wi τ1 63 K (nI u)) 1 24 = nI K := by rw [yt_in _ _ (by omega)]; exact h2
    unfold zf_M_reach_132 zf_M_reach_159
    rw [h1, if_neg (nI_pos (by omega)), h2, yn_b (show K < 12800 by omega) (by decide), yq_g, nI_clamp (by omega), yq_v, w, nI_1, yq_v]
  rcases ym_find2 (F := F) hz hZ hr hX h0 hF with ⟨u, u1, u2, u3⟩ | ⟨u1, u2⟩
  · have hne : ¬ nI u = nI Z := fun e => by
      have := (nI_eq (by omega) (by omega)).mp e
      omega
    rw [u3]
    unfold zf_M_reach_24
    rw [hz, if_neg hne, e132 u τ hat hk]
    refine ⟨1, _, rfl, ⟨fun o k w1 w2 w3 w4 => ?_, fun o k => rfl⟩, Or.inl ⟨u, u1, u2, rfl, ⟨?_, hZ⟩, fun s' j hs' hj => ?_, fun s' hs' => ?_, yt_ie _ _ _ _, fun j hj => ?_⟩⟩
    · rw [yt_in _ _ (by omega), yt_in _ _ w4]
    · rw [yt_in _ _ (by omega), yt_in _ _ (by omega)]
      exact hz
    · rw [yt_in _ _ (by omega), yt_in _ _ (by omega)]
      exact hr s' j hs' hj
    · simp (disch := omega) only [yt_in, yt_ie, yt_ir, yt_il, yt_ri, yt_rl, yt_rn, yt_re, yt_li, yt_lr, yt_ln, yt_le]
      exact hd s' hs'
    · by_cases hj2 : j = K
      · rw [hj2, yup_e, yt_in _ _ (by omega), yt_ie]
      · rw [yup_n hj2, yt_in _ _ (by omega), yt_in _ _ (by omega)]
        exact hst j (by omega)
  · rw [u2]
    unfold zf_M_reach_24
    have z8 : (nI Z = (800 : Int32)) = (Z = 800) := yn_eq (a := Z) (b := 800) (by omega) (by omega)
    rw [hz, if_pos rfl]
    by_cases h8 : Z = 800
    · rw [if_pos (z8.mpr h8)]
      exact ⟨0, τ, rfl, ⟨fun _ _ _ _ _ _ => rfl, fun _ _ => rfl⟩, Or.inr ⟨u1, Or.inl ⟨h8, rfl, rfl⟩⟩⟩
    · rw [if_neg (fun e => h8 (z8.mp e))]
      have hZ8 : Z < 800 := by omega
      have hcp : zq_cp 0 τ 65 0 (34 * nI Z) 34 34 27234 = true := by
        rw [show (34 : Int32) * nI Z = nI (34 * Z) from yn_mul 34 Z, show (34 : Int32) = nI 34 from rfl, show (0 : Int32) = nI 0 from rfl]
        unfold zq_cp
        rw [nI_clamp (by omega), nI_clamp (by omega), nI_clamp (by omega), decide_eq_true (nI_pos (by omega)), decide_eq_true (nI_pos (by omega)), decide_eq_true (nI_pos (by omega)), decide_eq_true (by omega), decide_eq_true (by omega)]
        simp only [Bool.true_and, List.all_eq_true, List.mem_range]
        intro i hi
        rfl
      have c0 : (0 : Int32).toNatClampNeg = 0 := by decide
      have c34 : (34 : Int32).toNatClampNeg = 34 := by decide
      have cZ : ((34 : Int32) * nI Z).toNatClampNeg = 34 * Z := by
        rw [show (34 : Int32) * nI Z = nI (34 * Z) from yn_mul 34 Z, nI_clamp (by omega)]
      have ci : ∀ o k, o ≠ 58 → zs_i (zs_cp τ 65 58 0 (34 * Z) 34) o k = zs_i τ o k := fun o k ho => by rw [yt_ic, if_neg ho]
      have h28 : zs_i (zs_cp τ 65 58 0 (34 * Z) 34) 1 28 = nI s := (ci _ _ (by omega)).trans hat
      have h23 : zs_i (zs_cp τ 65 58 0 (34 * Z) 34) 1 23 = nI Z := (ci _ _ (by omega)).trans hz
      have h59 : zs_i (zs_cp τ 65 58 0 (34 * Z) 34) 59 s = dp s := (ci _ _ (by omega)).trans (hd s hs).1
      rw [hcp, yq_g, yq_v, c0, c34, cZ, h28, if_pos (nI_pos' (by omega)), yn_b (show s < 801 by omega) (by decide), yq_g, nI_clamp (by omega), h59, h23]
      unfold zf_M_reach_95
      have d1 : zs_i (zs_wi (zs_cp τ 65 58 0 (34 * Z) 34) 59 Z (dp s + 1)) 1 23 = nI Z := by rw [yt_in _ _ (by omega)]; exact h23
      have d1b : zs_i (zs_wi (zs_cp τ 65 58 0 (34 * Z) 34) 59 Z (dp s + 1)) 1 29 = x2 := by rw [yt_in _ _ (by omega), ci _ _ (by omega)]; exact hth
      have d2 : zs_i (zs_wi (zs_wi (zs_cp τ 65 58 0 (34 * Z) 34) 59 Z (dp s + 1)) 60 Z x2) 1 23 = nI Z := by rw [yt_in _ _ (by omega)]; exact d1
      have d2b : zs_i (zs_wi (zs_wi (zs_cp τ 65 58 0 (34 * Z) 34) 59 Z (dp s + 1)) 60 Z x2) 1 28 = nI s := by rw [yt_in _ _ (by omega), yt_in _ _ (by omega)]; exact h28
      have d3 : zs_i (zs_wi (zs_wi (zs_wi (zs_cp τ 65 58 0 (34 * Z) 34) 59 Z (dp s + 1)) 60 Z x2) 61 Z (nI s)) 1 23 = nI Z := by rw [yt_in _ _ (by omega)]; exact d2
      rw [yn_b (show Z < 801 by omega) (by decide), yq_g, nI_clamp (by omega), yq_v, d1, d1b, yn_b (show Z < 801 by omega) (by decide), yq_g, nI_clamp (by omega), yq_v, d2, d2b, yn_b (show Z < 801 by omega) (by decide), yq_g, nI_clamp (by omega), yq_v, d3, nI_1, yq_v]
      rw [e132 Z _ (by simp (disch := omega) only [yt_in, yt_ie, yt_ir, yt_il, yt_ri, yt_rl, yt_rn, yt_re, yt_li, yt_lr, yt_ln, yt_le]; exact h28) (by simp (disch := omega) only [yt_in, yt_ie, yt_ir, yt_il, yt_ri, yt_rl, yt_rn, yt_re, yt_li, yt_lr, yt_ln, yt_le]; rw [ci _ _ (by omega)]; exact hk)]
      refine ⟨1, _, rfl, ⟨fun o k w1 w2 w3 w4 => ?_, fun o k => rfl⟩, Or.inr ⟨u1, Or.inr ⟨hZ8, rfl, ⟨?_, by omega⟩, fun s' j hs' hj => ?_, fun s' hs' => ?_, yt_ie _ _ _ _, fun j hj => ?_⟩⟩⟩
      · simp (disch := omega) only [yt_in, yt_ie, yt_ir, yt_il, yt_ri, yt_rl, yt_rn, yt_re, yt_li, yt_lr, yt_ln, yt_le]
        rw [yt_ic]
        by_cases ho : o = 58
        · rw [if_pos ho]
          unfold va_cpy
          rw [if_neg (by omega), ho]
        · rw [if_neg ho]
      · simp (disch := omega) only [yt_in, yt_ie, yt_ir, yt_il, yt_ri, yt_rl, yt_rn, yt_re, yt_li, yt_lr, yt_ln, yt_le]
      · simp (disch := omega) only [yt_in, yt_ie, yt_ir, yt_il, yt_ri, yt_rl, yt_rn, yt_re, yt_li, yt_lr, yt_ln, yt_le]
        rw [yt_ic, if_pos rfl]
        unfold va_cpy
        by_cases e : s' = Z
        · rw [if_pos (by omega), e, yRu_e, show 0 + (34 * Z + j - 34 * Z) = j by omega]
          exact hX j hj
        · rw [if_neg (by omega), yRu_n e]
          exact hr s' j (by omega) hj
      · by_cases e : s' = Z
        · rw [e, yU_e, yU_e, yU_e]
          simp (disch := omega) only [yt_in, yt_ie, yt_ir, yt_il, yt_ri, yt_rl, yt_rn, yt_re, yt_li, yt_lr, yt_ln, yt_le]
          refine ⟨?_, ?_, ?_⟩ <;> trivial
        · rw [yU_n e, yU_n e, yU_n e]
          simp (disch := omega) only [yt_in, yt_ie, yt_ir, yt_il, yt_ri, yt_rl, yt_rn, yt_re, yt_li, yt_lr, yt_ln, yt_le]
          rw [ci _ _ (by omega), ci _ _ (by omega), ci _ _ (by omega)]
          exact hd s' (by omega)
      · by_cases hj2 : j = K
        · rw [hj2, yup_e]
          simp (disch := omega) only [yt_in, yt_ie, yt_ir, yt_il, yt_ri, yt_rl, yt_rn, yt_re, yt_li, yt_lr, yt_ln, yt_le]
        · rw [yup_n hj2]
          simp (disch := omega) only [yt_in, yt_ie, yt_ir, yt_il, yt_ri, yt_rl, yt_rn, yt_re, yt_li, yt_lr, yt_ln, yt_le]
          rw [ci _ _ (by omega)]
          exact hst j (by omega)
end YRX
