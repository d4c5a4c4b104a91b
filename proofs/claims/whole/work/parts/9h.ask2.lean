/-! the questions: local, next, look -/
section YQB
variable {F n m p q t V L T : Nat} {v : Nat → Nat}
theorem yq_rf {q : Nat} (hq : yQQ q) : ∀ t, t < 4 → zd_rf 1 (q + 7) t = q + 15 + 3 * t ∧ zq_k 1 (q + 15 + 3 * t) 20 = true := by
  rcases hq with rfl | rfl
  · decide +kernel
  · decide +kernel
theorem yq_local {tt S : Nat} {B Tt kd tg : Nat → Nat} {wy : Nat → Nat → Int32} {ex : Nat → List (Nat × Int32)} {W : Nat × (Nat → Nat → Int32) × (Nat → Int32) × (Nat → Int32) × (Nat → Int32) × Nat × (Nat → Nat) × Bool} {fn : Nat → Nat} {σ τ : zs_S} {a b c : Int32} (h : yQx σ τ p q V L tt S B Tt kd tg wy ex W fn) : yAn (zf_S_local F a b c σ) (zf_M_local F a b c τ) σ τ := by
  obtain ⟨hp, hq, hr6, hr2, hpp, hpc, hpm, ⟨f1, f2, f3, f4, f5, f6, f7⟩, h4, h138⟩ := h
  have hp2 := yPP_b hp
  have hq2 := yQQ_b hq
  have hS := hpp.1
  have hZ := f3.1
  unfold zf_S_local zf_S_local_43 zf_S_local_22 zf_M_local zf_M_local_50 zf_M_local_53 zf_M_each zf_S_localCell
  rcases yq_ist (F := F) (x := a) (y := b) (tt := tt) hp hq (by omega) (by omega) f1.1.1.1.1 f2.1.1 hpc.1.2.2.1 hpm.1.2.2.1 hr6 hr2 with ⟨s, t, s1, t1, s2, t2, s3, t3, e⟩ | ⟨s3 | ⟨s3, t3⟩, e⟩
  · have hT := hpp.2.2.1 t t1
    obtain ⟨rf1, rf2⟩ := yq_rf hq t (by omega)
    have hnt : b.toNatClampNeg = t := by rw [t2, nI_clamp (by omega)]
    rw [e, yq_c, if_neg y01, s3, yq_c, if_neg y01, hr6, zq_qr (by omega), yp_k hp, yq_g, t3, yq_c, if_neg y01, hr6, zq_qr (by omega), yp_k hp, yq_g, yp_r5 hp, zq_qr (by omega), yp_k2 hp, yq_g, yp_z2 hp, hnt, show zq_b b 4 = true from by rw [t2]; exact yn_b (by omega) (by decide), yq_g, hpc.2.1 t t1, hr2, zq_qr (by omega), yv_k hq, yq_g, yv_r2 hq, zq_qr (by omega), yv_k7 hq, yq_g, yv_z7 hq, show zq_b b 4 = true from by rw [t2]; exact yn_b (by omega) (by decide), yq_g, rf1, zq_qr (by omega), rf2, yq_g, hpm.2.1 t t1]
    rcases yq_in (F := F) (x := c) (τ := τ) (Z := Tt t) (by omega) with ⟨k, k1, k2, k3, k4, k5, k6⟩ | ⟨e2, k3 | ⟨k3, k4, k5⟩⟩
    · have hc := yq_cell (k := 20 + 3 * t + k) f2 s1 (by omega) (by omega)
      rw [ypi_lo t (by omega) k (by omega)] at hc
      rw [if_neg k3, if_pos k5, yq_c, k6, yq_c, if_neg y01, yq_c, s2, t2, k2, show nI t * 3 = nI (3 * t) from by rw [show (3 : Int32) = nI 3 from rfl, yn_mul, Nat.mul_comm], show (20 : Int32) + nI (3 * t) = nI (20 + 3 * t) from nI_add 20 _, nI_add, yx_cell f1 s1 (by omega), yq_c, yn_1m, yn_e0, nI_add, nI_add, show 34 * s + (12 + 5 * t) + k = 34 * s + (12 + 5 * t + k) by omega, yn_b (show 34 * s + (12 + 5 * t + k) < 27234 by omega) (by decide), yq_g, nI_clamp (by omega), hc]
      exact ⟨_, rfl, rfl⟩
    · rw [if_pos k3, e2, yq_c, if_pos y00]
      exact ⟨_, rfl, rfl⟩
    · rw [if_neg k3, if_neg k5, e2, yq_c, if_pos y00]
      exact ⟨_, rfl, rfl⟩
  · rw [e, yq_c, if_pos y00, s3, yq_c, if_pos y00]
    exact ⟨_, rfl, rfl⟩
  · rw [e, yq_c, if_pos y00, s3, yq_c, if_neg y01, hr6, zq_qr (by omega), yp_k hp, yq_g, t3, yq_c, if_pos y00]
    exact ⟨_, rfl, rfl⟩
theorem yq_next {tt S : Nat} {B Tt kd tg : Nat → Nat} {wy : Nat → Nat → Int32} {ex : Nat → List (Nat × Int32)} {W : Nat × (Nat → Nat → Int32) × (Nat → Int32) × (Nat → Int32) × (Nat → Int32) × Nat × (Nat → Nat) × Bool} {fn : Nat → Nat} {σ τ : zs_S} {a b : Int32} (h : yQx σ τ p q V L tt S B Tt kd tg wy ex W fn) : yAn (zf_S_next F a b σ) (zf_M_next F a b τ) σ τ := by
  obtain ⟨hp, hq, hr6, hr2, hpp, hpc, hpm, ⟨f1, f2, f3, f4, f5, f6, f7⟩, h4, h138⟩ := h
  have hS := hpp.1
  have hZ := f3.1
  unfold zf_S_next zf_S_next_27 zf_M_next zf_M_next_49 zf_M_next_51 zf_States_stepsOf
  rcases yq_has (F := F) (x := a) (by omega) f1.1.1.1.1 f2.1.1 with ⟨s, s1, s2, s3, s4⟩ | ⟨s3, s4⟩
  · obtain ⟨u1, u2, u3⟩ := f7.1 s (by omega)
    obtain ⟨w1, w2, w3⟩ := f7.1 (s + 1) (by omega)
    have mono := f7.2 s (by omega)
    have ha1 : a + 1 = nI (s + 1) := by rw [s2, nI_1]
    rw [s3, yq_c, if_neg y01, s4, yq_c, if_neg y01, ha1, s2, yn_b (show s + 1 < 801 by omega) (by decide), yq_g, yn_b (show s < 801 by omega) (by decide), yq_g, yq_c, yn_b (show s + 1 < 802 by omega) (by decide), yq_g, yn_b (show s < 802 by omega) (by decide), yq_g, nI_clamp (by omega), nI_clamp (by omega), u1, w1, u2, w2, yn_sub mono]
    rcases yq_in (F := F) (x := b) (τ := τ) (Z := fn (s + 1) - fn s) (by omega) with ⟨k, k1, k2, k3, k4, k5, k6⟩ | ⟨e2, k3 | ⟨k3, k4, k5⟩⟩
    · rw [k6, yq_c, if_neg y01, if_neg k3, if_pos k5, yq_g, yq_g, u2, k2, nI_add, yn_b (show fn s + k < 3200 by omega) (by decide), yq_g, yn_b (show fn s + k < 12800 by omega) (by decide), yq_g, nI_clamp (by omega), f1.1.2.2.2 _ (by omega), f2.2.2.2.2 _ (by omega)]
      exact ⟨_, rfl, rfl⟩
    · rw [e2, yq_c, if_pos y00, if_pos k3]
      exact ⟨_, rfl, rfl⟩
    · rw [e2, yq_c, if_pos y00, if_neg k3, if_neg k5]
      exact ⟨_, rfl, rfl⟩
  · rw [s3, yq_c, if_pos y00, s4, yq_c, if_pos y00]
    exact ⟨_, rfl, rfl⟩
theorem yq_look {tt S : Nat} {B Tt kd tg : Nat → Nat} {wy : Nat → Nat → Int32} {ex : Nat → List (Nat × Int32)} {W : Nat × (Nat → Nat → Int32) × (Nat → Int32) × (Nat → Int32) × (Nat → Int32) × Nat × (Nat → Nat) × Bool} {fn : Nat → Nat} {σ τ : zs_S} {a b : Int32} (h : yQx σ τ p q V L tt S B Tt kd tg wy ex W fn) : yAn (zf_S_look F a b σ) (zf_M_look F a b τ) σ τ := by
  obtain ⟨hp, hq, hr6, hr2, hpp, hpc, hpm, ⟨f1, f2, f3, f4, f5, f6, f7⟩, h4, h138⟩ := h
  have hS := hpp.1
  have hZ := f3.1
  have e4 : (4 : Int32) = nI 5 - 1 := by decide
  have hin := yq_in (F := F) (x := b) (τ := τ) (Z := 5) (by omega)
  unfold zf_S_look zf_S_look_9 zf_M_look zf_M_look_83 zf_M_look_85
  rcases hin with ⟨k, k1, k2, k3, k4, k5, k6⟩ | ⟨e2, k3 | ⟨k3, k4, k5⟩⟩
  · have hle : b ≤ 4 := by rw [k2]; exact nI_le (b := 4) (by omega) (by decide)
    have k6' : zf_M_in F b 0 4 τ = some (1, τ) := k6
    rw [if_neg k3, if_pos hle, k6', yq_c, if_neg y01]
    rcases yq_has (F := F) (x := a) (by omega) f1.1.1.1.1 f2.1.1 with ⟨s, s1, s2, s3, s4⟩ | ⟨s3, s4⟩
    · obtain ⟨d1, d2, d3⟩ := f1.1.2.1 s s1
      obtain ⟨g1, g2, g3⟩ := f2.2.2.1 s s1
      rw [s3, yq_c, if_neg y01, s4, yq_c, if_neg y01, s2, yn_b (show s < 800 by omega) (by decide), yq_g, yq_g, yq_g, yn_b (show s < 801 by omega) (by decide), yq_g, yq_g, yq_g, nI_clamp (by omega), d1, d2, d3, g1, g2, g3]
      have hk : k = 0 ∨ k = 1 ∨ k = 2 ∨ k = 3 ∨ k = 4 := by omega
      rcases hk with e | e | e | e | e
      · rw [show b = (0 : Int32) from by rw [k2, e]; rfl, if_pos rfl, if_pos rfl]
        exact ⟨_, rfl, rfl⟩
      · rw [show b = (1 : Int32) from by rw [k2, e]; rfl, if_neg (show ¬ (1 : Int32) = 0 by decide), if_neg (show ¬ (1 : Int32) = 0 by decide), if_pos rfl, if_pos rfl]
        exact ⟨_, rfl, rfl⟩
      · rw [show b = (2 : Int32) from by rw [k2, e]; rfl, if_neg (show ¬ (2 : Int32) = 0 by decide), if_neg (show ¬ (2 : Int32) = 0 by decide), if_neg (show ¬ (2 : Int32) = 1 by decide), if_neg (show ¬ (2 : Int32) = 1 by decide), if_pos rfl, if_pos rfl]
        exact ⟨_, rfl, rfl⟩
      · have hc := yq_cell (k := 32) f2 s1 (by decide) (by omega)
        rw [show ypi 32 = 32 from rfl] at hc
        have hcc : zf_States_cell F (nI s) 32 σ = some (W.2.1 s 32, σ) := yx_cell (k := 32) f1 s1 (by decide)
        rw [show b = (3 : Int32) from by rw [k2, e]; rfl, if_neg (show ¬ (3 : Int32) = 0 by decide), if_neg (show ¬ (3 : Int32) = 0 by decide), if_neg (show ¬ (3 : Int32) = 1 by decide), if_neg (show ¬ (3 : Int32) = 1 by decide), if_neg (show ¬ (3 : Int32) = 2 by decide), if_neg (show ¬ (3 : Int32) = 2 by decide), if_pos rfl, if_pos rfl, hcc, yq_c, yn_1m, show nI (34 * s) + (32 : Int32) = nI (34 * s + 32) from nI_add _ 32, yn_b (show 34 * s + 32 < 27234 by omega) (by decide), yq_g, nI_clamp (by omega), hc]
        exact ⟨_, rfl, rfl⟩
      · have hc := yq_cell (k := 33) f2 s1 (by decide) (by omega)
        rw [show ypi 33 = 33 from rfl] at hc
        have hcc : zf_States_cell F (nI s) 33 σ = some (W.2.1 s 33, σ) := yx_cell (k := 33) f1 s1 (by decide)
        rw [show b = (4 : Int32) from by rw [k2, e]; rfl, if_neg (show ¬ (4 : Int32) = 0 by decide), if_neg (show ¬ (4 : Int32) = 0 by decide), if_neg (show ¬ (4 : Int32) = 1 by decide), if_neg (show ¬ (4 : Int32) = 1 by decide), if_neg (show ¬ (4 : Int32) = 2 by decide), if_neg (show ¬ (4 : Int32) = 2 by decide), if_neg (show ¬ (4 : Int32) = 3 by decide), if_neg (show ¬ (4 : Int32) = 3 by decide), hcc, yq_c, yn_1m, show nI (34 * s) + (33 : Int32) = nI (34 * s + 33) from nI_add _ 33, yn_b (show 34 * s + 33 < 27234 by omega) (by decide), yq_g, nI_clamp (by omega), hc]
        exact ⟨_, rfl, rfl⟩
    · rw [s3, yq_c, if_pos y00, s4, yq_c, if_pos y00]
      exact ⟨_, rfl, rfl⟩
  · have e2' : zf_M_in F b 0 4 τ = some (0, τ) := e2
    rw [e2', yq_c, if_pos y00, if_pos k3]
    exact ⟨_, rfl, rfl⟩
  · have e2' : zf_M_in F b 0 4 τ = some (0, τ) := e2
    have hle : ¬ b ≤ 4 := by
      obtain ⟨n, n1, n2⟩ := nI_of k3
      rw [n2] at k4 ⊢
      have := (nI_leI (a := 5) (b := n) (by omega) n1).mp k4
      exact fun hh => by
        have := (nI_leI (a := n) (b := 4) n1 (by omega)).mp hh
        omega
    rw [e2', yq_c, if_pos y00, if_neg k3, if_neg hle]
    exact ⟨_, rfl, rfl⟩
end YQB
