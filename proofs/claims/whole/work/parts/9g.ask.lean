/-! the questions: one cell -/
section YQA
variable {F n m p q t V L T : Nat} {v : Nat → Nat}
theorem yn_mlt {n : Nat} (h : n < 2 ^ 31) : (-1 : Int32) < nI n := by
  rw [Int32.lt_iff_toInt_lt, nI_toInt h, show (-1 : Int32).toInt = -1 from by decide]
  omega
theorem yn_e0 (t : Nat) : (12 : Int32) + 5 * nI t = nI (12 + 5 * t) := by
  rw [show (5 : Int32) * nI t = nI (5 * t) from yn_mul 5 t, show (12 : Int32) = nI 12 from rfl, nI_add]
/-- in a range, both sides -/
theorem yq_in {Z : Nat} {x : Int32} {τ : zs_S} (hZ : Z < 2 ^ 31) : (∃ n, n < Z ∧ x = nI n ∧ ¬ x < 0 ∧ ¬ nI Z ≤ x ∧ x < nI Z ∧ zf_M_in F x 0 (nI Z - 1) τ = some (1, τ)) ∨ (zf_M_in F x 0 (nI Z - 1) τ = some (0, τ) ∧ (x < 0 ∨ (¬ x < 0 ∧ nI Z ≤ x ∧ ¬ x < nI Z))) := by
  rw [zp_in]
  by_cases h : x < 0
  · rw [if_pos h]
    exact Or.inr ⟨rfl, Or.inl h⟩
  · rw [if_neg h]
    obtain ⟨n, n1, n2⟩ := nI_of h
    subst n2
    by_cases hn : n < Z
    · obtain ⟨Y, rfl⟩ : ∃ Y, Z = Y + 1 := ⟨Z - 1, by omega⟩
      rw [nI_pred, if_neg (nI_nlt (by omega) (by omega))]
      exact Or.inl ⟨n, hn, rfl, h, nI_ge hn hZ, nI_lt hn hZ, rfl⟩
    · have : nI Z - 1 < nI n := by
        by_cases h0 : Z = 0
        · rw [h0, show nI 0 - 1 = (-1 : Int32) from by decide]
          exact yn_mlt n1
        · obtain ⟨Y, rfl⟩ : ∃ Y, Z = Y + 1 := ⟨Z - 1, by omega⟩
          rw [nI_pred]
          exact nI_lt (by omega) n1
      rw [if_pos this]
      exact Or.inr ⟨rfl, Or.inr ⟨h, nI_le (by omega) n1, nI_nlt (by omega) n1⟩⟩
theorem yq_has {Z : Nat} {x : Int32} {σ τ : zs_S} (hZ : Z < 2 ^ 31) (h1 : zs_i σ 10 9 = nI Z) (h2 : zs_i τ 1 23 = nI Z) : (∃ s, s < Z ∧ x = nI s ∧ zf_States_has F x σ = some (1, σ) ∧ zf_M_isIn F x τ = some (1, τ)) ∨ (zf_States_has F x σ = some (0, σ) ∧ zf_M_isIn F x τ = some (0, τ)) := by
  unfold zf_States_has zf_States_has_16 zf_States_has_17 zf_M_isIn
  rw [h1, h2, yz_0, yz_1, yq_g, yq_g]
  rcases yq_in (F := F) (x := x) (τ := τ) hZ with ⟨n, n1, n2, n3, n4, n5, n6⟩ | ⟨e, n3 | ⟨n3, n4, n5⟩⟩
  · rw [if_neg n3, if_neg n4, n6, yq_c, yz_1, yq_g]
    exact Or.inl ⟨n, n1, n2, rfl, rfl⟩
  · rw [if_pos n3, e, yq_c, yz_0, yq_g]
    exact Or.inr ⟨rfl, rfl⟩
  · rw [if_neg n3, if_pos n4, e, yq_c, yz_0, yq_g]
    exact Or.inr ⟨rfl, rfl⟩
theorem yq_var {Z : Nat} {x : Int32} {σ τ : zs_S} (hp : yPP p) (hZ : Z < 2 ^ 31) (h1 : zs_i σ p 0 = nI Z) : (∃ s, s < Z ∧ x = nI s ∧ zf_Program_hasVariable F p x σ = some (1, σ) ∧ zf_M_in F x 0 (nI Z - 1) τ = some (1, τ)) ∨ (zf_Program_hasVariable F p x σ = some (0, σ) ∧ zf_M_in F x 0 (nI Z - 1) τ = some (0, τ)) := by
  unfold zf_Program_hasVariable zf_Program_hasVariable_16 zf_Program_hasVariable_17
  rw [h1, yp_k hp, yq_g, yz_0, yz_1, yq_g, yq_g]
  rcases yq_in (F := F) (x := x) (τ := τ) hZ with ⟨n, n1, n2, n3, n4, n5, n6⟩ | ⟨e, n3 | ⟨n3, n4, n5⟩⟩
  · rw [if_neg n3, if_neg n4]
    exact Or.inl ⟨n, n1, n2, rfl, n6⟩
  · rw [if_pos n3]
    exact Or.inr ⟨rfl, e⟩
  · rw [if_neg n3, if_pos n4]
    exact Or.inr ⟨rfl, e⟩
theorem yq_thr {Z : Nat} {x : Int32} {σ τ : zs_S} (hp : yPP p) (hZ : Z < 2 ^ 31) (h1 : zs_i σ p 2 = nI Z) : (∃ s, s < Z ∧ x = nI s ∧ zf_Program_hasThread F p x σ = some (1, σ) ∧ zf_M_in F x 0 (nI Z - 1) τ = some (1, τ)) ∨ (zf_Program_hasThread F p x σ = some (0, σ) ∧ zf_M_in F x 0 (nI Z - 1) τ = some (0, τ)) := by
  unfold zf_Program_hasThread zf_Program_hasThread_16 zf_Program_hasThread_17
  rw [h1, yp_k hp, yq_g, yz_0, yz_1, yq_g, yq_g]
  rcases yq_in (F := F) (x := x) (τ := τ) hZ with ⟨n, n1, n2, n3, n4, n5, n6⟩ | ⟨e, n3 | ⟨n3, n4, n5⟩⟩
  · rw [if_neg n3, if_neg n4]
    exact Or.inl ⟨n, n1, n2, rfl, n6⟩
  · rw [if_pos n3]
    exact Or.inr ⟨rfl, e⟩
  · rw [if_neg n3, if_pos n4]
    exact Or.inr ⟨rfl, e⟩
/-- the two stores, with all that is known -/
def yQx (σ τ : zs_S) (p q V L tt S : Nat) (B Tt kd tg : Nat → Nat) (wy : Nat → Nat → Int32) (ex : Nat → List (Nat × Int32)) (W : Nat × (Nat → Nat → Int32) × (Nat → Int32) × (Nat → Int32) × (Nat → Int32) × Nat × (Nat → Nat) × Bool) (fn : Nat → Nat) : Prop := yPP p ∧ yQQ q ∧ zs_r σ 1 6 = p ∧ zs_r τ 1 2 = q ∧ yFx σ τ p q V L tt S B Tt kd tg wy ex W fn
/-- an answer, in the same stores -/
def yAn (x y : Option (Int32 × zs_S)) (σ τ : zs_S) : Prop := ∃ r : Int32, x = some (r, σ) ∧ y = some (r, τ)
theorem yq_cell {s k tt : Nat} {W : Nat × (Nat → Nat → Int32) × (Nat → Int32) × (Nat → Int32) × (Nat → Int32) × Nat × (Nat → Nat) × Bool} {τ : zs_S} (h : ymW τ tt W) (hs : s < W.1) (hk : k < 34) (hn : ¬ (12 + tt ≤ k ∧ k < 16)) : zs_i τ 58 (34 * s + ypi k) = W.2.1 s k := (h.2.1 s (ypi k) hs (ypi_f k hk).1).trans (yD_p hk hn)
theorem yq_ist {tt Z : Nat} {x y : Int32} {σ τ : zs_S} (hp : yPP p) (hq : yQQ q) (hZ : Z < 2 ^ 31) (htt : tt < 2 ^ 31) (h1 : zs_i σ 10 9 = nI Z) (h2 : zs_i τ 1 23 = nI Z) (h3 : zs_i σ p 2 = nI tt) (h4 : zs_i τ q 5 = nI tt) (hr : zs_r σ 1 6 = p) (hr2 : zs_r τ 1 2 = q) : (∃ s t, s < Z ∧ t < tt ∧ x = nI s ∧ y = nI t ∧ zf_States_has F x σ = some (1, σ) ∧ zf_Program_hasThread F p y σ = some (1, σ) ∧ zf_M_isThread F x y τ = some (1, τ)) ∨ ((zf_States_has F x σ = some (0, σ) ∨ (zf_States_has F x σ = some (1, σ) ∧ zf_Program_hasThread F p y σ = some (0, σ))) ∧ zf_M_isThread F x y τ = some (0, τ)) := by
  have hq2 := yQQ_b hq
  unfold zf_M_isThread zf_M_isThread_29 zf_M_isThread_30
  rcases yq_has (F := F) (x := x) hZ h1 h2 with ⟨s, s1, s2, s3, s4⟩ | ⟨s3, s4⟩
  · rw [s4, yq_c, if_neg y01, hr2, zq_qr (by omega), yv_k hq, yq_g, h4]
    rcases yq_thr (F := F) (x := y) (τ := τ) hp htt h3 with ⟨t, t1, t2, t3, t4⟩ | ⟨t3, t4⟩
    · rw [t4, yq_c, if_neg y01, yz_1, yq_g]
      exact Or.inl ⟨s, t, s1, t1, s2, t2, s3, t3, rfl⟩
    · rw [t4, yq_c, if_pos y00, yz_0, yq_g]
      exact Or.inr ⟨Or.inr ⟨s3, t3⟩, rfl⟩
  · rw [s4, yq_c, if_pos y00, yz_0, yq_g]
    exact Or.inr ⟨Or.inl s3, rfl⟩
theorem yn_1m (h : Nat) : (34 : Int32) * nI h = nI (34 * h) := yn_mul 34 h
theorem yq_value {tt S : Nat} {B Tt kd tg : Nat → Nat} {wy : Nat → Nat → Int32} {ex : Nat → List (Nat × Int32)} {W : Nat × (Nat → Nat → Int32) × (Nat → Int32) × (Nat → Int32) × (Nat → Int32) × Nat × (Nat → Nat) × Bool} {fn : Nat → Nat} {σ τ : zs_S} {a b : Int32} (h : yQx σ τ p q V L tt S B Tt kd tg wy ex W fn) : yAn (zf_S_value F a b σ) (zf_M_value F a b τ) σ τ := by
  obtain ⟨hp, hq, hr6, hr2, hpp, hpc, hpm, ⟨f1, f2, f3, f4, f5, f6, f7⟩, h4, h138⟩ := h
  have hp2 := yPP_b hp
  have hq2 := yQQ_b hq
  have hS := hpp.1
  have hZ := f3.1
  unfold zf_S_value zf_S_value_22 zf_M_value zf_M_value_42 zf_M_value_45
  rcases yq_has (F := F) (x := a) (by omega) f1.1.1.1.1 f2.1.1 with ⟨s, s1, s2, s3, s4⟩ | ⟨s3, s4⟩
  · rw [s3, yq_c, if_neg y01, s4, yq_c, if_neg y01, hr6, zq_qr (by omega), yp_k hp, yq_g, hr2, zq_qr (by omega), yv_k hq, yq_g, yv_r0 hq, zq_qr (by omega), yv_k1 hq, yq_g, hpm.1.1]
    rcases yq_var (F := F) (x := b) (τ := τ) hp (by omega) hpc.1.1 with ⟨k, k1, k2, k3, k4⟩ | ⟨k3, k4⟩
    · have hc := yq_cell (k := k) f2 s1 (by omega) (by omega)
      rw [show ypi k = k from if_pos (by omega)] at hc
      rw [k3, yq_c, if_neg y01, k4, yq_c, if_neg y01, s2, k2, yx_cell f1 s1 (by omega), yq_c, yn_1m, nI_add, yn_b (show 34 * s + k < 27234 by omega) (by decide), yq_g, nI_clamp (by omega), hc]
      exact ⟨_, rfl, rfl⟩
    · rw [k3, yq_c, if_pos y00, k4, yq_c, if_pos y00]
      exact ⟨_, rfl, rfl⟩
  · rw [s3, yq_c, if_pos y00, s4, yq_c, if_pos y00]
    exact ⟨_, rfl, rfl⟩
theorem yq_owner {tt S : Nat} {B Tt kd tg : Nat → Nat} {wy : Nat → Nat → Int32} {ex : Nat → List (Nat × Int32)} {W : Nat × (Nat → Nat → Int32) × (Nat → Int32) × (Nat → Int32) × (Nat → Int32) × Nat × (Nat → Nat) × Bool} {fn : Nat → Nat} {σ τ : zs_S} {a b : Int32} (h : yQx σ τ p q V L tt S B Tt kd tg wy ex W fn) : yAn (zf_S_owner F a b σ) (zf_M_owner F a b τ) σ τ := by
  obtain ⟨hp, hq, hr6, hr2, hpp, hpc, hpm, ⟨f1, f2, f3, f4, f5, f6, f7⟩, h4, h138⟩ := h
  have hp2 := yPP_b hp
  have hq2 := yQQ_b hq
  have hS := hpp.1
  have hZ := f3.1
  unfold zf_S_owner zf_S_owner_26 zf_M_owner zf_M_owner_45 zf_M_owner_47
  rcases yq_has (F := F) (x := a) (by omega) f1.1.1.1.1 f2.1.1 with ⟨s, s1, s2, s3, s4⟩ | ⟨s3, s4⟩
  · rw [s3, yq_c, if_neg y01, s4, yq_c, if_neg y01, hr6, zq_qr (by omega), yp_k hp, yq_g, hpc.1.2.1, hr2, zq_qr (by omega), yv_k hq, yq_g, yv_r1 hq, zq_qr (by omega), yv_k4 hq, yq_g, hpm.1.2.1]
    rcases yq_in (F := F) (x := b) (τ := τ) (Z := L) (by omega) with ⟨k, k1, k2, k3, k4, k5, k6⟩ | ⟨e, k3 | ⟨k3, k4, k5⟩⟩
    · have hc := yq_cell (k := 8 + k) f2 s1 (by omega) (by omega)
      rw [show ypi (8 + k) = 8 + k from if_pos (by omega)] at hc
      rw [k6, yq_c, if_neg y01, if_neg k3, if_pos k5, s2, k2, show (8 : Int32) + nI k = nI (8 + k) from nI_add 8 k, yx_cell f1 s1 (by omega), yq_c, yn_1m, show (8 : Int32) = nI 8 from rfl, nI_add, nI_add, show 34 * s + 8 + k = 34 * s + (8 + k) by omega, yn_b (show 34 * s + (8 + k) < 27234 by omega) (by decide), yq_g, nI_clamp (by omega), hc]
      exact ⟨_, rfl, rfl⟩
    · rw [e, yq_c, if_pos y00, if_pos k3]
      exact ⟨_, rfl, rfl⟩
    · rw [e, yq_c, if_pos y00, if_neg k3, if_neg k5]
      exact ⟨_, rfl, rfl⟩
  · rw [s3, yq_c, if_pos y00, s4, yq_c, if_pos y00]
    exact ⟨_, rfl, rfl⟩
theorem yq_place {tt S : Nat} {B Tt kd tg : Nat → Nat} {wy : Nat → Nat → Int32} {ex : Nat → List (Nat × Int32)} {W : Nat × (Nat → Nat → Int32) × (Nat → Int32) × (Nat → Int32) × (Nat → Int32) × Nat × (Nat → Nat) × Bool} {fn : Nat → Nat} {σ τ : zs_S} {a b : Int32} (h : yQx σ τ p q V L tt S B Tt kd tg wy ex W fn) : yAn (zf_S_place F a b σ) (zf_M_place F a b τ) σ τ := by
  obtain ⟨hp, hq, hr6, hr2, hpp, hpc, hpm, ⟨f1, f2, f3, f4, f5, f6, f7⟩, h4, h138⟩ := h
  have hp2 := yPP_b hp
  have hq2 := yQQ_b hq
  have hS := hpp.1
  have hZ := f3.1
  unfold zf_S_place zf_S_place_22 zf_M_place zf_M_place_30 zf_M_each
  rcases yq_ist (F := F) (x := a) (y := b) (tt := tt) hp hq (by omega) (by omega) f1.1.1.1.1 f2.1.1 hpc.1.2.2.1 hpm.1.2.2.1 hr6 hr2 with ⟨s, t, s1, t1, s2, t2, s3, t3, e⟩ | ⟨s3 | ⟨s3, t3⟩, e⟩
  · have hc := yq_cell (k := 12 + t) f2 s1 (by omega) (by omega)
    rw [(ypi_pl t (by omega)).1] at hc
    rw [e, yq_c, if_neg y01, s3, yq_c, if_neg y01, hr6, zq_qr (by omega), yp_k hp, yq_g, t3, yq_c, if_neg y01, s2, t2, show (12 : Int32) + nI t = nI (12 + t) from nI_add 12 t, yx_cell f1 s1 (by omega), yq_c, yq_c, yn_1m, yn_e0, nI_add, show (3 : Int32) = nI 3 from rfl, nI_add, show 34 * s + (12 + 5 * t) + 3 = 34 * s + (12 + 5 * t + 3) by omega, yn_b (show 34 * s + (12 + 5 * t + 3) < 27234 by omega) (by decide), yq_g, nI_clamp (by omega), hc]
    exact ⟨_, rfl, rfl⟩
  · rw [e, yq_c, if_pos y00, s3, yq_c, if_pos y00]
    exact ⟨_, rfl, rfl⟩
  · rw [e, yq_c, if_pos y00, s3, yq_c, if_neg y01, hr6, zq_qr (by omega), yp_k hp, yq_g, t3, yq_c, if_pos y00]
    exact ⟨_, rfl, rfl⟩
theorem yq_waits {tt S : Nat} {B Tt kd tg : Nat → Nat} {wy : Nat → Nat → Int32} {ex : Nat → List (Nat × Int32)} {W : Nat × (Nat → Nat → Int32) × (Nat → Int32) × (Nat → Int32) × (Nat → Int32) × Nat × (Nat → Nat) × Bool} {fn : Nat → Nat} {σ τ : zs_S} {a b : Int32} (h : yQx σ τ p q V L tt S B Tt kd tg wy ex W fn) : yAn (zf_S_waits F a b σ) (zf_M_waits F a b τ) σ τ := by
  obtain ⟨hp, hq, hr6, hr2, hpp, hpc, hpm, ⟨f1, f2, f3, f4, f5, f6, f7⟩, h4, h138⟩ := h
  have hp2 := yPP_b hp
  have hq2 := yQQ_b hq
  have hS := hpp.1
  have hZ := f3.1
  unfold zf_S_waits zf_S_waits_22 zf_M_waits zf_M_waits_30 zf_M_each
  rcases yq_ist (F := F) (x := a) (y := b) (tt := tt) hp hq (by omega) (by omega) f1.1.1.1.1 f2.1.1 hpc.1.2.2.1 hpm.1.2.2.1 hr6 hr2 with ⟨s, t, s1, t1, s2, t2, s3, t3, e⟩ | ⟨s3 | ⟨s3, t3⟩, e⟩
  · have hc := yq_cell (k := 16 + t) f2 s1 (by omega) (by omega)
    rw [(ypi_pl t (by omega)).2] at hc
    rw [e, yq_c, if_neg y01, s3, yq_c, if_neg y01, hr6, zq_qr (by omega), yp_k hp, yq_g, t3, yq_c, if_neg y01, s2, t2, show (16 : Int32) + nI t = nI (16 + t) from nI_add 16 t, yx_cell f1 s1 (by omega), yq_c, yq_c, yn_1m, yn_e0, nI_add, show (4 : Int32) = nI 4 from rfl, nI_add, show 34 * s + (12 + 5 * t) + 4 = 34 * s + (12 + 5 * t + 4) by omega, yn_b (show 34 * s + (12 + 5 * t + 4) < 27234 by omega) (by decide), yq_g, nI_clamp (by omega), hc]
    exact ⟨_, rfl, rfl⟩
  · rw [e, yq_c, if_pos y00, s3, yq_c, if_pos y00]
    exact ⟨_, rfl, rfl⟩
  · rw [e, yq_c, if_pos y00, s3, yq_c, if_neg y01, hr6, zq_qr (by omega), yp_k hp, yq_g, t3, yq_c, if_pos y00]
    exact ⟨_, rfl, rfl⟩
end YQA
