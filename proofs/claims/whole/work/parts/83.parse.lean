/-! the ways are settled; the whole program -/
section YPS
variable {F n m p q t V L T : Nat} {v : Nat → Nat}
theorem yEq_in {g : Nat → Nat → Int32} {lo hi : Nat} {σ : zs_S} (hE : yEq σ p (-1) (-1) g lo hi) (h50 : hi ≤ 50) (hD : ∀ x, lo ≤ x → x < hi → yD2 σ p (-1) lo hi x) : ∀ b x, x < b → lo ≤ x → x < hi → ∀ w, w < 3 → g x w = -1 ∨ ∃ y, lo ≤ y ∧ y < hi ∧ g x w = nI y := by
  intro b
  induction b with
  | zero => intro x h; omega
  | succ b ih =>
    intro x hx x1 x2 w hw
    obtain ⟨a1, a2, a3⟩ := hE x x1 x2
    obtain ⟨d1, d2, d3, d4⟩ := hD x x1 x2
    have ni : ∀ y, yIn y lo hi → ¬ y = -2 → y = -1 ∨ ∃ z, lo ≤ z ∧ z < hi ∧ y = nI z := by
      intro y hy hn
      rcases hy with hy | hy
      · exact absurd hy hn
      · exact Or.inr hy
    have h0 : g x 0 = -1 ∨ ∃ y, lo ≤ y ∧ y < hi ∧ g x 0 = nI y := by
      rw [a1]
      by_cases hf : zs_i σ (p + 5 + x) 7 = -2
      · rw [if_pos hf]
        unfold yBh
        rcases d1 with d1 | ⟨y, y1, y2, y3⟩
        · rw [if_pos d1]
          exact Or.inl rfl
        · rw [y3, if_neg (yn_m1 (by omega)), nI_clamp (by omega)]
          by_cases hk : zs_r σ (p + 5 + y) 0 = 1108
          · rw [if_pos hk]
            exact Or.inr ⟨y, y1, by omega, rfl⟩
          · rw [if_neg hk]
            exact ih y (by omega) y1 (by omega) 0 (by omega)
      · rw [if_neg hf]
        exact ni _ d4 hf
    have hw3 : w = 0 ∨ w = 1 ∨ w = 2 := by omega
    rcases hw3 with rfl | rfl | rfl
    · exact h0
    · rw [a2]
      by_cases hf : zs_i σ (p + 5 + x) 5 = -2
      · rw [if_pos hf]
        by_cases hk : zs_r σ (p + 5 + x) 0 = 1108
        · rw [if_pos hk]
          exact Or.inr ⟨x, x1, x2, rfl⟩
        · rw [if_neg hk]
          exact h0
      · rw [if_neg hf]
        exact ni _ d2 hf
    · rw [a3]
      by_cases hf : zs_i σ (p + 5 + x) 6 = -2
      · rw [if_pos hf]
        exact h0
      · rw [if_neg hf]
        exact ni _ d3 hf
/-- which cell of the class holds a way -/
def ywc (w : Nat) : Nat := if w = 0 then 7 else if w = 1 then 5 else 6
theorem yy_beh {S x : Nat} {g : Nat → Nat → Int32} {σ σ0 : zs_S} (hp : yPP p) (hx : x < 50) (hD : zs_i σ0 (p + 5 + x) 1 = -1 ∨ ∃ y, 0 ≤ y ∧ y < x ∧ zs_i σ0 (p + 5 + x) 1 = nI y) (hk : ∀ y, y < x → zs_r σ (p + 5 + y) 0 = zs_r σ0 (p + 5 + y) 0 ∧ zs_r σ (p + 5 + y) 0 ≠ 0 ∧ zs_r σ (p + 5 + y) 0 < 1200) (hg : ∀ y, y < x → zs_i σ (p + 5 + y) 7 = g y 0) : zf_Program_behindBlock F p (zs_i σ0 (p + 5 + x) 1) σ = some (yBh σ0 p (-1) (-1) g (zs_i σ0 (p + 5 + x) 1), σ) := by
  have hp2 := yPP_b hp
  unfold zf_Program_behindBlock zf_Program_behindBlock_35 yBh
  rcases hD with hD | ⟨y, -, y2, y3⟩
  · rw [hD, if_pos rfl, if_pos rfl]
  · obtain ⟨k1, k2, k3⟩ := hk y y2
    rw [y3, if_neg (yn_m1 (by omega)), if_neg (yn_m1 (by omega)), nI_clamp (by omega), yp_k hp, yq_g, yp_r7 hp, zq_qr (by omega), yp_k4 hp, yq_g, yp_z4 hp, yn_b (show y < 50 by omega) (by decide), yq_g, yp_s hp (by omega), zq_qr (by omega), yp_sk hp (by omega), yq_g, zq_qr k2, yn_12 k3, yq_g, k1, zq_qr (by omega), yp_k4 hp, yq_g, yp_z4 hp, yn_b (show y < 50 by omega) (by decide), yq_g, yp_s hp (by omega), zq_qr (by omega), yp_sk hp (by omega), yq_g, hg y y2]
    by_cases h8 : zs_r σ0 (p + 5 + y) 0 = 1108
    · rw [if_pos h8, if_pos h8]
    · rw [if_neg h8, if_neg h8]
theorem yy_settle2 {S : Nat} {g : Nat → Nat → Int32} {σ0 : zs_S} (hp : yPP p) (hS : S ≤ 50) (hsz : zs_i σ0 p 3 = nI S) (hE : yEq σ0 p (-1) (-1) g 0 S) (hD : ∀ x, 0 ≤ x → x < S → zs_i σ0 (p + 5 + x) 1 = -1 ∨ ∃ y, 0 ≤ y ∧ y < x ∧ zs_i σ0 (p + 5 + x) 1 = nI y) (hk : ∀ x, x < S → zs_r σ0 (p + 5 + x) 0 ≠ 0 ∧ zs_r σ0 (p + 5 + x) 0 < 1200) : ∀ d x N σ, S - x ≤ d → x ≤ S → d < N → (∀ o k, ¬ (p + 5 ≤ o ∧ o < p + 5 + x ∧ 5 ≤ k ∧ k ≤ 7) → zs_i σ o k = zs_i σ0 o k) → (∀ o k, zs_r σ o k = zs_r σ0 o k) → (∀ o k, zs_l σ o k = zs_l σ0 o k) → (∀ y w, y < x → w < 3 → zs_i σ (p + 5 + y) (ywc w) = g y w) → ∃ σ', zf_Program_settleWays_2 F N p (nI x) σ = some σ' ∧ (∀ o k, ¬ (p + 5 ≤ o ∧ o < p + 5 + S ∧ 5 ≤ k ∧ k ≤ 7) → zs_i σ' o k = zs_i σ0 o k) ∧ (∀ o k, zs_r σ' o k = zs_r σ0 o k) ∧ (∀ o k, zs_l σ' o k = zs_l σ0 o k) ∧ (∀ y w, y < S → w < 3 → zs_i σ' (p + 5 + y) (ywc w) = g y w) := by
  have hp2 := yPP_b hp
  have stop : ∀ N σ, 0 < N → (∀ o k, ¬ (p + 5 ≤ o ∧ o < p + 5 + S ∧ 5 ≤ k ∧ k ≤ 7) → zs_i σ o k = zs_i σ0 o k) → zf_Program_settleWays_2 F N p (nI S) σ = some σ := by
    intro N σ hN w1
    obtain ⟨N, rfl⟩ : ∃ q, N = q + 1 := ⟨N - 1, by omega⟩
    rw [zf_Program_settleWays_2, yp_k hp, yq_g, w1 _ _ (by omega), hsz, if_pos (nI_le (Nat.le_refl _) (by omega))]
  intro d
  induction d with
  | zero =>
    intro x N σ a1 a2 a3 w1 w2 w3 w4
    have : x = S := by omega
    subst this
    exact ⟨σ, stop N σ a3 w1, w1, w2, w3, w4⟩
  | succ d ih =>
    intro x N σ a1 a2 a3 w1 w2 w3 w4
    by_cases hxS : x = S
    · subst hxS
      exact ⟨σ, stop N σ (by omega) w1, w1, w2, w3, w4⟩
    · obtain ⟨N, rfl⟩ : ∃ q, N = q + 1 := ⟨N - 1, by omega⟩
      have hx : x < S := by omega
      obtain ⟨E0, E1, E2⟩ := hE x (by omega) hx
      have hc : ∀ k, zs_i σ (p + 5 + x) k = zs_i σ0 (p + 5 + x) k := fun k => w1 _ _ (by omega)
      have hbh := yy_beh (F := F) (S := S) (g := g) (σ := σ) (σ0 := σ0) hp (by omega) (hD x (by omega) hx) (fun y hy => ⟨w2 _ _, by rw [w2]; exact (hk y (by omega)).1, by rw [w2]; exact (hk y (by omega)).2⟩) (fun y hy => w4 y 0 hy (by omega))
      have hkx : zs_r σ (p + 5 + x) 0 ≠ 0 ∧ zs_r σ (p + 5 + x) 0 < 1200 := by
        rw [w2]
        exact hk x hx
      -- the three cells
      have e38 : ∀ σ1, (∀ o k, ¬ (o = p + 5 + x ∧ k = 7) → zs_i σ1 o k = zs_i σ o k) → (∀ o k, zs_r σ1 o k = zs_r σ o k) → (∀ o k, zs_l σ1 o k = zs_l σ o k) → zs_i σ1 (p + 5 + x) 7 = g x 0 → ∃ σ2, zf_Program_settleWays_38 F (zf_Program_settleWays_2 F N) p (nI x) (p + 5 + x) σ1 = zf_Program_settleWays_2 F N p (nI (x + 1)) σ2 ∧ (∀ o k, ¬ (o = p + 5 + x ∧ 5 ≤ k ∧ k ≤ 7) → zs_i σ2 o k = zs_i σ o k) ∧ (∀ o k, zs_r σ2 o k = zs_r σ o k) ∧ (∀ o k, zs_l σ2 o k = zs_l σ o k) ∧ (∀ w, w < 3 → zs_i σ2 (p + 5 + x) (ywc w) = g x w) := by
        intro σ1 u1 u2 u3 u4
        have e69 : ∀ σ3, (∀ o k, ¬ (o = p + 5 + x ∧ (k = 5 ∨ k = 7)) → zs_i σ3 o k = zs_i σ o k) → (∀ o k, zs_r σ3 o k = zs_r σ o k) → (∀ o k, zs_l σ3 o k = zs_l σ o k) → zs_i σ3 (p + 5 + x) 7 = g x 0 → zs_i σ3 (p + 5 + x) 5 = g x 1 → ∃ σ2, zf_Program_settleWays_69 F (zf_Program_settleWays_2 F N) p (nI x) (p + 5 + x) σ3 = zf_Program_settleWays_2 F N p (nI (x + 1)) σ2 ∧ (∀ o k, ¬ (o = p + 5 + x ∧ 5 ≤ k ∧ k ≤ 7) → zs_i σ2 o k = zs_i σ o k) ∧ (∀ o k, zs_r σ2 o k = zs_r σ o k) ∧ (∀ o k, zs_l σ2 o k = zs_l σ o k) ∧ (∀ w, w < 3 → zs_i σ2 (p + 5 + x) (ywc w) = g x w) := by
          intro σ3 z1 z2 z3 z4 z5
          have h6 : zs_i σ3 (p + 5 + x) 6 = zs_i σ0 (p + 5 + x) 6 := (z1 _ _ (by omega)).trans (hc 6)
          unfold zf_Program_settleWays_69 zf_Program_settleWays_86
          rw [yp_sk hp (by omega), yq_g, h6, z4, nI_1]
          by_cases hf : zs_i σ0 (p + 5 + x) 6 = -2
          · rw [if_pos hf, yq_v, yq_v]
            refine ⟨_, rfl, fun o k y => ?_, fun o k => z2 o k, fun o k => z3 o k, fun w hw => ?_⟩
            · rw [yt_in _ _ (by omega), z1 o k (by omega)]
            · have hw3 : w = 0 ∨ w = 1 ∨ w = 2 := by omega
              rcases hw3 with rfl | rfl | rfl
              · show zs_i _ (p + 5 + x) 7 = _
                rw [yt_in _ _ (by omega), z4]
              · show zs_i _ (p + 5 + x) 5 = _
                rw [yt_in _ _ (by omega), z5]
              · show zs_i _ (p + 5 + x) 6 = _
                rw [yt_ie, E2, if_pos hf]
          · rw [if_neg hf, yq_v]
            refine ⟨σ3, rfl, fun o k y => z1 o k (by omega), z2, z3, fun w hw => ?_⟩
            have hw3 : w = 0 ∨ w = 1 ∨ w = 2 := by omega
            rcases hw3 with rfl | rfl | rfl
            · exact z4
            · exact z5
            · show zs_i _ (p + 5 + x) 6 = _
              rw [h6, E2, if_neg hf]
        have h5 : zs_i σ1 (p + 5 + x) 5 = zs_i σ0 (p + 5 + x) 5 := (u1 _ _ (by omega)).trans (hc 5)
        unfold zf_Program_settleWays_38 zf_Program_settleWays_66
        rw [yp_sk hp (by omega), yq_g, h5, u2, zq_qr hkx.1, yn_12 hkx.2, yq_g, u4, yq_g, yq_v, yq_v, w2]
        by_cases hf : zs_i σ0 (p + 5 + x) 5 = -2
        · rw [if_pos hf]
          by_cases h8 : zs_r σ0 (p + 5 + x) 0 = 1108
          · rw [if_pos h8]
            refine e69 _ (fun o k y => ?_) (fun o k => u2 o k) (fun o k => u3 o k) ?_ ?_
            · rw [yt_in _ _ (by omega), u1 o k (by omega)]
            · rw [yt_in _ _ (by omega), u4]
            · rw [yt_ie, E1, if_pos hf, if_pos h8]
          · rw [if_neg h8]
            refine e69 _ (fun o k y => ?_) (fun o k => u2 o k) (fun o k => u3 o k) ?_ ?_
            · rw [yt_in _ _ (by omega), u1 o k (by omega)]
            · rw [yt_in _ _ (by omega), u4]
            · rw [yt_ie, E1, if_pos hf, if_neg h8]
        · rw [if_neg hf]
          exact e69 σ1 (fun o k y => u1 o k (by omega)) u2 u3 u4 (by rw [h5, E1, if_neg hf])
      have e2 : ∃ σ2, zf_Program_settleWays_2 F (N + 1) p (nI x) σ = zf_Program_settleWays_2 F N p (nI (x + 1)) σ2 ∧ (∀ o k, ¬ (o = p + 5 + x ∧ 5 ≤ k ∧ k ≤ 7) → zs_i σ2 o k = zs_i σ o k) ∧ (∀ o k, zs_r σ2 o k = zs_r σ o k) ∧ (∀ o k, zs_l σ2 o k = zs_l σ o k) ∧ (∀ w, w < 3 → zs_i σ2 (p + 5 + x) (ywc w) = g x w) := by
        rw [zf_Program_settleWays_2, yp_k hp, yq_g, w1 p 3 (by omega), hsz, if_neg (nI_ge hx (by omega)), yp_r7 hp, zq_qr (by omega), yp_k4 hp, yq_g, yp_z4 hp, yn_b (show x < 50 by omega) (by decide), yq_g, nI_clamp (by omega), yp_s hp (by omega), zq_qr (by omega), yp_sk hp (by omega), yq_g, hc 7, hc 1, hbh, yq_c, yq_v]
        by_cases hf : zs_i σ0 (p + 5 + x) 7 = -2
        · rw [if_pos hf]
          refine e38 _ (fun o k y => yt_in _ _ y) (fun o k => rfl) (fun o k => rfl) ?_
          rw [yt_ie, E0, if_pos hf]
        · rw [if_neg hf]
          exact e38 σ (fun o k y => rfl) (fun o k => rfl) (fun o k => rfl) (by rw [hc 7, E0, if_neg hf])
      obtain ⟨σ2, e3, z1, z2, z3, z4⟩ := e2
      rw [e3]
      refine ih (x + 1) N σ2 (by omega) (by omega) (by omega) (fun o k y => ?_) (fun o k => (z2 o k).trans (w2 o k)) (fun o k => (z3 o k).trans (w3 o k)) (fun y w hy hw => ?_)
      · rw [z1 o k (by omega), w1 o k (by omega)]
      · by_cases hyx : y = x
        · subst hyx
          exact z4 w hw
        · have hwc : 5 ≤ ywc w ∧ ywc w ≤ 7 := by
            unfold ywc
            repeat' split
            all_goals omega
          rw [z1 _ _ (by omega), w4 y w (by omega) hw]
end YPS
