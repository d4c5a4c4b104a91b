/-! explorer: a built row is kept, both sides -/
section YKQ
variable {F n m p q t V L T : Nat} {v : Nat → Nat}
def yRu (R : Nat → Nat → Int32) (Z : Nat) (X : Nat → Int32) (s k : Nat) : Int32 := if s = Z then X k else R s k
theorem yRu_e (R : Nat → Nat → Int32) (Z : Nat) (X : Nat → Int32) : yRu R Z X Z = X := by
  funext k
  exact if_pos rfl
theorem yRu_n {R : Nat → Nat → Int32} {Z s : Nat} {X : Nat → Int32} (h : s ≠ Z) : yRu R Z X s = R s := by
  funext k
  exact if_neg h
/-- all that is kept of states, in the class and in the reference -/
def yWc (σ : zs_S) (Z : Nat) (R : Nat → Nat → Int32) (dp pa mv : Nat → Int32) (K : Nat) (sp : Nat → Nat) : Prop := yZc σ Z R ∧ (∀ s, s < Z → zs_i σ 12 s = dp s ∧ zs_i σ 13 s = pa s ∧ zs_i σ 14 s = mv s) ∧ zs_i σ 10 10 = nI K ∧ (∀ j, j < K → zs_i σ 15 j = nI (sp j))
def yWm (τ : zs_S) (tt Z : Nat) (R : Nat → Nat → Int32) (dp pa mv : Nat → Int32) (K : Nat) (sp : Nat → Nat) : Prop := (zs_i τ 1 23 = nI Z ∧ Z ≤ 800) ∧ (∀ s j, s < Z → j < 34 → zs_i τ 58 (34 * s + j) = yD tt (R s) j) ∧ (∀ s, s < Z → zs_i τ 59 s = dp s ∧ zs_i τ 61 s = pa s ∧ zs_i τ 60 s = mv s) ∧ zs_i τ 1 24 = nI K ∧ (∀ j, j < K → zs_i τ 63 j = nI (sp j))
theorem yZc_new {Z : Nat} {R : Nat → Nat → Int32} {X : Nat → Int32} {σ σ' : zs_S} (h : yZc σ Z R) (hX : yXb σ Z X) (hZ : Z < 800) (hn : ∀ s, s < Z → ¬ ∀ k, k < 34 → R s k = X k) (h9 : zs_i σ' 10 9 = nI (Z + 1)) (h11 : ∀ k, zs_i σ' 11 k = zs_i σ 11 k) (h17 : zs_i σ' 17 Z = yhs X ∧ ∀ s, s < Z → zs_i σ' 17 s = zs_i σ 17 s) (h18 : zs_i σ' 18 (ybk X) = nI Z ∧ ∀ b, b ≠ ybk X → zs_i σ' 18 b = zs_i σ 18 b) (h19 : zs_i σ' 19 Z = zs_i σ 18 (ybk X) ∧ ∀ s, s < Z → zs_i σ' 19 s = zs_i σ 19 s) : yZc σ' (Z + 1) (yRu R Z X) := by
  obtain ⟨⟨a1, a2⟩, a3, a4, a5, a6, a7⟩ := h
  have hbk : ∀ s, s < Z → ybk (yRu R Z X s) = ybk (R s) := fun s hs => by rw [yRu_n (by omega)]
  have hpv : ∀ b n, n ≤ Z → ypv (yRu R Z X) b n = ypv R b n := fun b n hn => ypv_F n (fun s hs => hbk s (by omega))
  refine ⟨⟨h9, by omega⟩, fun s k hs hk => ?_, fun s s' hs hs' he => ?_, fun s hs => ?_, fun b hb => ?_, fun s hs => ?_⟩
  · rw [h11]
    by_cases e : s = Z
    · rw [e, yRu_e]
      exact hX k hk
    · rw [yRu_n e]
      exact a3 s k (by omega) hk
  · by_cases e : s = Z
    · by_cases e' : s' = Z
      · omega
      · rw [e, yRu_e, yRu_n e'] at he
        exact absurd (fun k hk => (he k hk).symm) (hn s' (by omega))
    · by_cases e' : s' = Z
      · rw [e', yRu_e, yRu_n e] at he
        exact absurd he (hn s (by omega))
      · rw [yRu_n e, yRu_n e'] at he
        exact a4 s s' (by omega) (by omega) he
  · by_cases e : s = Z
    · rw [e, yRu_e]
      exact h17.1
    · rw [yRu_n e, h17.2 s (by omega)]
      exact a5 s (by omega)
  · show _ = if ybk (yRu R Z X Z) = b then nI Z else ypv (yRu R Z X) b Z
    rw [yRu_e, hpv b Z (Nat.le_refl Z)]
    by_cases e : b = ybk X
    · rw [if_pos e.symm, e]
      exact h18.1
    · rw [if_neg (fun h => e h.symm), h18.2 b e]
      exact a6 b hb
  · by_cases e : s = Z
    · rw [e, yRu_e, hpv _ Z (Nat.le_refl Z), h19.1]
      exact a6 _ (ybk_f X).1
    · rw [yRu_n e, hpv _ s (by omega), h19.2 s (by omega)]
      exact a7 s (by omega)
/-- what keeping leaves alone in the class -/
def yfK (Z s K : Nat) (σ σ' : zs_S) : Prop := (∀ o k, ¬ (o = 10 ∧ (k = 9 ∨ k = 10 ∨ k = 11)) → ¬ ((o = 12 ∨ o = 13 ∨ o = 14 ∨ o = 17 ∨ o = 19) ∧ k = Z) → o ≠ 18 → ¬ (o = 15 ∧ k = K) → ¬ (o = 16 ∧ k = s + 1) → zs_i σ' o k = zs_i σ o k) ∧ (∀ o k, zs_r σ' o k = zs_r σ o k) ∧ (∀ o k, zs_l σ' o k = zs_l σ o k)
theorem yy_keep {Z s K : Nat} {R : Nat → Nat → Int32} {dp pa mv : Nat → Int32} {sp : Nat → Nat} {X : Nat → Int32} {x2 : Int32} {σ : zs_S} (h : yWc σ Z R dp pa mv K sp) (hX : yXb σ Z X) (hs : s < Z) (hK : K < 3200) (hF : 900 < F) : ∃ σ', zf_States_keep F (nI s) x2 σ = some σ' ∧ yfK Z s K σ σ' ∧ ((∃ u, u < Z ∧ (∀ k, k < 34 → R u k = X k) ∧ yWc σ' Z R dp pa mv (K + 1) (yup sp K u) ∧ zs_i σ' 16 (s + 1) = nI (K + 1) ∧ zs_i σ' 10 11 = zs_i σ 10 11) ∨ ((∀ u, u < Z → ¬ ∀ k, k < 34 → R u k = X k) ∧ ((Z = 800 ∧ σ' = zs_wi σ 10 11 1) ∨ (Z < 800 ∧ yWc σ' (Z + 1) (yRu R Z X) (yU dp Z (dp s + 1)) (yU pa Z (nI s)) (yU mv Z x2) (K + 1) (yup sp K Z) ∧ zs_i σ' 16 (s + 1) = nI (K + 1) ∧ zs_i σ' 10 11 = zs_i σ 10 11)))) := by
  obtain ⟨hz, hd, hk, hst⟩ := h
  have hz9 := hz.1.1
  have hZ := hz.1.2
  -- the step itself
  have e55 : ∀ (x4 : Nat) (σ1 : zs_S), zs_i σ1 10 10 = nI K → zf_States_keep_55 F (nI s) (nI x4) σ1 = some (zs_wi (zs_wi (zs_wi σ1 15 K (nI x4)) 10 10 (nI (K + 1))) 16 (s + 1) (nI (K + 1))) := by
    intro x4 σ1 h1
    have w1 : zs_i (zs_wi σ1 15 K (nI x4)) 10 10 = nI K := by rw [yt_in _ _ (by omega)]; exact h1
    unfold zf_States_keep_55 zf_States_keep_105
    rw [if_neg (yn_m1 (by omega)), h1, if_neg (nI_ge hK (by omega)), yn_b hK (by decide), yq_g, nI_clamp (by omega), yq_v, w1, nI_1, yq_v, nI_1, yn_b (show s + 1 < 801 by omega) (by decide), yq_g, nI_clamp (by omega), yt_ie, yq_v]
  have ek : zf_States_keep F (nI s) x2 σ = zq_c (zf_States_findBuilt F (yhs X) σ) fun r5 σ4 => if r5 = (-2) then (if (zs_i σ4 10 9) = 800 then zq_v (zs_wi σ4 10 11 1) fun σ7 => some σ7 else zf_States_keep_35 F (nI s) x2 (yhs X) r5 σ4) else zf_States_keep_35 F (nI s) x2 (yhs X) r5 σ4 := by
    unfold zf_States_keep
    rw [yy_hash hz9 hZ hX (by omega), yq_c]
  rw [ek]
  rcases yy_findb (F := F) hz hX hF with ⟨u, u1, u2, u3⟩ | ⟨u1, u2⟩
  · rw [u3, yq_c, if_neg (yn_ne2 (by omega))]
    unfold zf_States_keep_35
    rw [if_neg (yn_ne2 (by omega)), e55 u σ hk]
    refine ⟨_, rfl, ⟨fun o k w1 w2 w3 w4 w5 => ?_, fun o k => rfl, fun o k => rfl⟩, Or.inl ⟨u, u1, u2, ⟨?_, fun s' hs' => ?_, ?_, fun j hj => ?_⟩, yt_ie _ _ _ _, ?_⟩⟩
    · rw [yt_in _ _ w5, yt_in _ _ (by omega), yt_in _ _ w4]
    · obtain ⟨⟨a1, a2⟩, a3, a4, a5, a6, a7⟩ := hz
      refine ⟨⟨?_, a2⟩, fun s k hs hk => ?_, a4, fun s hs => ?_, fun b hb => ?_, fun s hs => ?_⟩
      · rw [yt_in _ _ (by omega), yt_in _ _ (by omega), yt_in _ _ (by omega)]
        exact a1
      · rw [yt_in _ _ (by omega), yt_in _ _ (by omega), yt_in _ _ (by omega)]
        exact a3 s k hs hk
      · rw [yt_in _ _ (by omega), yt_in _ _ (by omega), yt_in _ _ (by omega)]
        exact a5 s hs
      · rw [yt_in _ _ (by omega), yt_in _ _ (by omega), yt_in _ _ (by omega)]
        exact a6 b hb
      · rw [yt_in _ _ (by omega), yt_in _ _ (by omega), yt_in _ _ (by omega)]
        exact a7 s hs
    · simp (disch := omega) only [yt_in, yt_ie, yt_ir, yt_il, yt_ri, yt_rl, yt_rn, yt_re, yt_li, yt_lr, yt_ln, yt_le]
      exact hd s' hs'
    · rw [yt_in _ _ (by omega), yt_ie]
    · by_cases hj2 : j = K
      · rw [hj2, yup_e, yt_in _ _ (by omega), yt_in _ _ (by omega), yt_ie]
      · rw [yup_n hj2, yt_in _ _ (by omega), yt_in _ _ (by omega), yt_in _ _ (by omega)]
        exact hst j (by omega)
    · rw [yt_in _ _ (by omega), yt_in _ _ (by omega), yt_in _ _ (by omega)]
  · rw [u2, yq_c, if_pos rfl, hz9]
    have z8 : (nI Z = (800 : Int32)) = (Z = 800) := yn_eq (a := Z) (b := 800) (by omega) (by omega)
    by_cases h8 : Z = 800
    · rw [if_pos (z8.mpr h8), yq_v]
      exact ⟨_, rfl, ⟨fun o k w1 w2 w3 w4 w5 => yt_in _ _ (by omega), fun o k => rfl, fun o k => rfl⟩, Or.inr ⟨u1, Or.inl ⟨h8, rfl⟩⟩⟩
    · rw [if_neg (fun e => h8 (z8.mp e))]
      have hZ8 : Z < 800 := by omega
      have hbk := ybk_f X
      have ea : zf_States_addBuilt F (yhs X) (nI s) x2 σ = some (zs_wi (zs_wi (zs_wi (zs_wi (zs_wi (zs_wi (zs_wi σ 12 Z (dp s + 1)) 13 Z (nI s)) 14 Z x2) 17 Z (yhs X)) 19 Z (zs_i σ 18 (ybk X))) 18 (ybk X) (nI Z)) 10 9 (nI (Z + 1))) := by
        have c9 : zs_i (zs_wi σ 12 Z (dp s + 1)) 10 9 = nI Z := by simp (disch := omega) only [yt_in, yt_ie, yt_ir, yt_il, yt_ri, yt_rl, yt_rn, yt_re, yt_li, yt_lr, yt_ln, yt_le]; exact hz9
        have c9b : zs_i (zs_wi (zs_wi σ 12 Z (dp s + 1)) 13 Z (nI s)) 10 9 = nI Z := by simp (disch := omega) only [yt_in, yt_ie, yt_ir, yt_il, yt_ri, yt_rl, yt_rn, yt_re, yt_li, yt_lr, yt_ln, yt_le]; exact hz9
        have c9c : zs_i (zs_wi (zs_wi (zs_wi σ 12 Z (dp s + 1)) 13 Z (nI s)) 14 Z x2) 10 9 = nI Z := by simp (disch := omega) only [yt_in, yt_ie, yt_ir, yt_il, yt_ri, yt_rl, yt_rn, yt_re, yt_li, yt_lr, yt_ln, yt_le]; exact hz9
        have c9d : zs_i (zs_wi (zs_wi (zs_wi (zs_wi σ 12 Z (dp s + 1)) 13 Z (nI s)) 14 Z x2) 17 Z (yhs X)) 10 9 = nI Z := by simp (disch := omega) only [yt_in, yt_ie, yt_ir, yt_il, yt_ri, yt_rl, yt_rn, yt_re, yt_li, yt_lr, yt_ln, yt_le]; exact hz9
        have c18 : zs_i (zs_wi (zs_wi (zs_wi (zs_wi σ 12 Z (dp s + 1)) 13 Z (nI s)) 14 Z x2) 17 Z (yhs X)) 18 (ybk X) = zs_i σ 18 (ybk X) := by simp (disch := omega) only [yt_in, yt_ie, yt_ir, yt_il, yt_ri, yt_rl, yt_rn, yt_re, yt_li, yt_lr, yt_ln, yt_le]
        have c9e : zs_i (zs_wi (zs_wi (zs_wi (zs_wi (zs_wi σ 12 Z (dp s + 1)) 13 Z (nI s)) 14 Z x2) 17 Z (yhs X)) 19 Z (zs_i σ 18 (ybk X))) 10 9 = nI Z := by simp (disch := omega) only [yt_in, yt_ie, yt_ir, yt_il, yt_ri, yt_rl, yt_rn, yt_re, yt_li, yt_lr, yt_ln, yt_le]; exact hz9
        have c9f : zs_i (zs_wi (zs_wi (zs_wi (zs_wi (zs_wi (zs_wi σ 12 Z (dp s + 1)) 13 Z (nI s)) 14 Z x2) 17 Z (yhs X)) 19 Z (zs_i σ 18 (ybk X))) 18 (ybk X) (nI Z)) 10 9 = nI Z := by simp (disch := omega) only [yt_in, yt_ie, yt_ir, yt_il, yt_ri, yt_rl, yt_rn, yt_re, yt_li, yt_lr, yt_ln, yt_le]; exact hz9
        unfold zf_States_addBuilt zf_States_addBuilt_32
        rw [hbk.2, yq_v, if_neg (yn_m1 (by omega)), yn_b (show s < 800 by omega) (by decide), yq_g, nI_clamp (by omega), (hd s hs).1, hz9, yn_b hZ8 (by decide), yq_g, nI_clamp (by omega), yq_v, c9, yn_b hZ8 (by decide), yq_g, nI_clamp (by omega), yq_v, c9b, yn_b hZ8 (by decide), yq_g, nI_clamp (by omega), yq_v, c9c, yn_b hZ8 (by decide), yq_g, nI_clamp (by omega), yq_v, yn_b hbk.1 (by decide), yq_g, c9d, yn_b hZ8 (by decide), yq_g, nI_clamp (by omega), nI_clamp (by omega), c18, yq_v, yq_g, c9e, yq_v, c9f, nI_1, yq_v]
      unfold zf_States_keep_35
      rw [if_pos rfl, hz9, yq_v, ea, yq_s]
      have k1 : zs_i (zs_wi (zs_wi (zs_wi (zs_wi (zs_wi (zs_wi (zs_wi σ 12 Z (dp s + 1)) 13 Z (nI s)) 14 Z x2) 17 Z (yhs X)) 19 Z (zs_i σ 18 (ybk X))) 18 (ybk X) (nI Z)) 10 9 (nI (Z + 1))) 10 10 = nI K := by simp (disch := omega) only [yt_in, yt_ie, yt_ir, yt_il, yt_ri, yt_rl, yt_rn, yt_re, yt_li, yt_lr, yt_ln, yt_le]; exact hk
      rw [e55 Z _ k1]
      refine ⟨_, rfl, ⟨fun o k w1 w2 w3 w4 w5 => ?_, fun o k => rfl, fun o k => rfl⟩, Or.inr ⟨u1, Or.inr ⟨hZ8, ⟨?_, fun s' hs' => ?_, ?_, fun j hj => ?_⟩, yt_ie _ _ _ _, ?_⟩⟩⟩
      · simp (disch := omega) only [yt_in, yt_ie, yt_ir, yt_il, yt_ri, yt_rl, yt_rn, yt_re, yt_li, yt_lr, yt_ln, yt_le]
      · refine yZc_new hz hX hZ8 u1 ?_ (fun k => ?_) ⟨?_, fun s hs => ?_⟩ ⟨?_, fun b hb => ?_⟩ ⟨?_, fun s hs => ?_⟩
        all_goals simp (disch := omega) only [yt_in, yt_ie, yt_ir, yt_il, yt_ri, yt_rl, yt_rn, yt_re, yt_li, yt_lr, yt_ln, yt_le]
      · by_cases e : s' = Z
        · rw [e, yU_e, yU_e, yU_e]
          simp (disch := omega) only [yt_in, yt_ie, yt_ir, yt_il, yt_ri, yt_rl, yt_rn, yt_re, yt_li, yt_lr, yt_ln, yt_le]
          refine ⟨?_, ?_, ?_⟩ <;> trivial
        · rw [yU_n e, yU_n e, yU_n e]
          simp (disch := omega) only [yt_in, yt_ie, yt_ir, yt_il, yt_ri, yt_rl, yt_rn, yt_re, yt_li, yt_lr, yt_ln, yt_le]
          exact hd s' (by omega)
      · rw [yt_in _ _ (by omega), yt_ie]
      · by_cases hj2 : j = K
        · rw [hj2, yup_e]
          simp (disch := omega) only [yt_in, yt_ie, yt_ir, yt_il, yt_ri, yt_rl, yt_rn, yt_re, yt_li, yt_lr, yt_ln, yt_le]
        · rw [yup_n hj2]
          simp (disch := omega) only [yt_in, yt_ie, yt_ir, yt_il, yt_ri, yt_rl, yt_rn, yt_re, yt_li, yt_lr, yt_ln, yt_le]
          exact hst j (by omega)
      · simp (disch := omega) only [yt_in, yt_ie, yt_ir, yt_il, yt_ri, yt_rl, yt_rn, yt_re, yt_li, yt_lr, yt_ln, yt_le]
end YKQ
