/-! explorer: the reference's first state; both explore alike -/
section YFT
variable {F n m p q t V L T : Nat} {v : Nat → Nat}
def yX2 (τ : zs_S) (D : Nat → Int32) : Prop := ∀ k, k < 34 → zs_i τ 65 (ypi k) = D k
theorem yX2_w {k : Nat} {x : Int32} {D : Nat → Int32} {τ : zs_S} (h : yX2 τ D) (hk : k < 34) : yX2 (zs_wi τ 65 (ypi k) x) (yU D k x) := by
  intro j hj
  by_cases e : j = k
  · rw [e, yU_e, yt_ie]
  · have : ypi j ≠ ypi k := fun e2 => e (by have := (ypi_f j hj).2; rw [e2, (ypi_f k hk).2] at this; exact this.symm)
    rw [yU_n e, yt_in _ _ (by omega)]
    exact h j hj
def ye4 (tt : Nat) (e : Nat → Int32) (t : Nat) : Int32 := if t < tt then e t else -1
theorem yX2_t {tt : Nat} {a e : Nat → Int32} {τ : zs_S} (hV : V ≤ 8) (h4 : tt ≤ 4) (h : yX2 τ (yU (yf0 a (ye4 tt e) V 4 4) 33 (-1))) : yXt τ tt (yU (yf0 a e V 4 tt) 33 (-1)) := by
  intro j hj
  obtain ⟨k1, k2⟩ := yrh_f j hj
  have := h (yrh j) k1
  rw [k2] at this
  rw [this]
  unfold yD
  generalize yrh j = k at k1
  by_cases e33 : k = 33
  · rw [e33, yU_e, yU_e, if_neg (by omega)]
  · rw [yU_n e33, yU_n e33]
    unfold yf0 ye4
    by_cases c1 : k < V
    · rw [if_pos c1, if_pos c1, if_neg (by omega)]
    · rw [if_neg c1, if_neg c1]
      by_cases c2 : 8 ≤ k ∧ k < 8 + 4
      · rw [if_pos c2, if_pos c2, if_neg (by omega)]
      · rw [if_neg c2, if_neg c2]
        by_cases c3 : 12 ≤ k ∧ k < 12 + tt
        · rw [if_pos (show 12 ≤ k ∧ k < 12 + 4 by omega), if_pos (show k - 12 < tt by omega), if_neg (show ¬ (12 + tt ≤ k ∧ k < 16) by omega), if_pos c3]
        · by_cases c4 : 12 ≤ k ∧ k < 12 + 4
          · rw [if_pos c4, if_neg (show ¬ k - 12 < tt by omega), if_pos (show 12 + tt ≤ k ∧ k < 16 by omega)]
          · rw [if_neg c4, if_neg (show ¬ (12 + tt ≤ k ∧ k < 16) by omega), if_neg c3]
def y0g (τ τ' : zs_S) : Prop := (∀ o k, o ≠ 65 → zs_i τ' o k = zs_i τ o k) ∧ (∀ o k, zs_r τ' o k = zs_r τ o k)
theorem y0g_t {a b c : zs_S} (h : y0g a b) (g : y0g b c) : y0g a c := ⟨fun o k x => (g.1 o k x).trans (h.1 o k x), fun o k => (g.2 o k).trans (h.2 o k)⟩
theorem y0g_w (σ : zs_S) (k : Nat) (x : Int32) : y0g σ (zs_wi σ 65 k x) := ⟨fun o j w => yt_in _ _ (by omega), fun _ _ => rfl⟩
theorem ym_rf {tt : Nat} {X : Nat → Int32} {τ : zs_S} (hF : 900 < F) (h23 : zs_i τ 1 23 = nI 0) (h24 : zs_i τ 1 24 = nI 0) (h28 : zs_i τ 1 28 = -1) (h29 : zs_i τ 1 29 = -1) (hX : yXt τ tt X) : ∃ τ', zf_M_reach F τ = some (1, τ') ∧ ymW τ' tt (yW1 X) ∧ (∀ o k, ¬ (o = 1 ∧ k = 23) → ¬ (58 ≤ o ∧ o ≤ 61) → zs_i τ' o k = zs_i τ o k) ∧ (∀ o k, zs_r τ' o k = zs_r τ o k) := by
  rcases ym_find2 (F := F) (R := fun _ => X) h23 (by omega) (fun s j hs => by omega) hX (fun u t hu => by omega) hF with ⟨u, u1, -⟩ | ⟨u1, u2⟩
  · omega
  · have hcp : zq_cp 0 τ 65 0 (34 * nI 0) 34 34 27234 = true := by
      rw [show (34 : Int32) * nI 0 = nI 0 from by decide, show (34 : Int32) = nI 34 from rfl, show (0 : Int32) = nI 0 from rfl]
      unfold zq_cp
      rw [nI_clamp (by omega), nI_clamp (by omega), decide_eq_true (nI_pos (by omega)), decide_eq_true (nI_pos (by omega)), decide_eq_true (by omega), decide_eq_true (by omega)]
      simp only [Bool.true_and, List.all_eq_true, List.mem_range]
      intro i hi
      rfl
    have ci : ∀ o k, o ≠ 58 → zs_i (zs_cp τ 65 58 0 0 34) o k = zs_i τ o k := fun o k ho => by rw [yt_ic, if_neg ho]
    have b8 : zq_b (nI 0) 801 = true := yn_b (by omega) (by decide)
    have n0 : (nI 0).toNatClampNeg = 0 := nI_clamp (by omega)
    have d0 : zs_i (zs_cp τ 65 58 0 0 34) 1 28 = -1 := (ci _ _ (by omega)).trans h28
    have d0b : zs_i (zs_cp τ 65 58 0 0 34) 1 23 = nI 0 := (ci _ _ (by omega)).trans h23
    have d1 : zs_i (zs_wi (zs_cp τ 65 58 0 0 34) 59 0 0) 1 23 = nI 0 := by rw [yt_in _ _ (by omega)]; exact d0b
    have d1b : zs_i (zs_wi (zs_cp τ 65 58 0 0 34) 59 0 0) 1 29 = -1 := by rw [yt_in _ _ (by omega), ci _ _ (by omega)]; exact h29
    have d2 : zs_i (zs_wi (zs_wi (zs_cp τ 65 58 0 0 34) 59 0 0) 60 0 (-1)) 1 23 = nI 0 := by rw [yt_in _ _ (by omega)]; exact d1
    have d2b : zs_i (zs_wi (zs_wi (zs_cp τ 65 58 0 0 34) 59 0 0) 60 0 (-1)) 1 28 = -1 := by rw [yt_in _ _ (by omega), yt_in _ _ (by omega)]; exact d0
    have d3 : zs_i (zs_wi (zs_wi (zs_wi (zs_cp τ 65 58 0 0 34) 59 0 0) 60 0 (-1)) 61 0 (-1)) 1 23 = nI 0 := by rw [yt_in _ _ (by omega)]; exact d2
    have d4 : zs_i (zs_wi (zs_wi (zs_wi (zs_wi (zs_cp τ 65 58 0 0 34) 59 0 0) 60 0 (-1)) 61 0 (-1)) 1 23 (nI 1)) 1 28 = -1 := by rw [yt_in _ _ (by omega), yt_in _ _ (by omega)]; exact d2b
    refine ⟨zs_wi (zs_wi (zs_wi (zs_wi (zs_cp τ 65 58 0 0 34) 59 0 0) 60 0 (-1)) 61 0 (-1)) 1 23 (nI 1), ?_, ⟨⟨yt_ie _ _ _ _, by show 1 ≤ 800; omega⟩, fun s j hs hj => ?_, fun s hs => ?_, ?_, fun j hj => ?_⟩, fun o k w1 w2 => ?_, fun o k => rfl⟩
    · rw [u2]
      unfold zf_M_reach_24 zf_M_reach_95 zf_M_reach_132 zf_M_reach_159
      rw [h23, if_pos rfl, if_neg (show ¬ nI 0 = (800 : Int32) by decide), hcp, yq_g, ym_cp0, ym_cp34, show (34 * nI 0 : Int32).toNatClampNeg = 0 from by decide, yq_v, d0, if_neg (show ¬ (0 : Int32) ≤ -1 by decide), d0b, b8, yq_g, n0, yq_v, d1, b8, yq_g, n0, d1b, yq_v, d2, b8, yq_g, n0, d2b, yq_v, d3, nI_1, yq_v, d4, if_pos (show (-1 : Int32) < 0 by decide)]
    · have hs : s < 1 := hs
      have : s = 0 := by omega
      subst this
      rw [yt_in _ _ (by omega), yt_in _ _ (by omega), yt_in _ _ (by omega), yt_in _ _ (by omega), yt_ic, if_pos rfl]
      unfold va_cpy
      rw [if_pos (by omega), show 0 + (34 * 0 + j - 0) = j by omega]
      exact hX j hj
    · have hs : s < 1 := hs
      have : s = 0 := by omega
      subst this
      simp (disch := omega) only [yt_in, yt_ie, yt_ir, yt_il, yt_ri, yt_rl, yt_rn, yt_re, yt_li, yt_lr, yt_ln, yt_le]
      refine ⟨?_, ?_, ?_⟩ <;> rfl
    · simp (disch := omega) only [yt_in, yt_ie, yt_ir, yt_il, yt_ri, yt_rl, yt_rn, yt_re, yt_li, yt_lr, yt_ln, yt_le]
      rw [ci _ _ (by omega)]
      exact h24
    · have hj : j < 0 := hj
      omega
    · rw [yt_in _ _ (by omega), yt_in _ _ (by omega), yt_in _ _ (by omega), yt_in _ _ (by omega), ci _ _ (by omega)]
theorem ym_first {tt : Nat} {τ : zs_S} (hq : yQQ q) (hF : 900 < F) (hV : V ≤ 8) (h4 : tt ≤ 4) (hr2 : zs_r τ 1 2 = q) (h23 : zs_i τ 1 23 = nI 0) (h24 : zs_i τ 1 24 = nI 0) (h28 : zs_i τ 1 28 = -1) (h29 : zs_i τ 1 29 = -1) (c0 : zs_i τ (q + 1) 2 = nI V) (c2 : zs_i τ q 5 = nI tt) (h65 : ∀ k, k < 34 → zs_i τ 65 k = 0) : ∃ τ', zf_M_check_65 F F 0 τ = zf_M_check_189 F F τ' ∧ ymW τ' tt (yW1 (yU (yf0 (zs_i τ (q + 8)) (zs_i τ (q + 9)) V 4 tt) 33 (-1))) ∧ zs_i τ' 1 28 = nI 0 ∧ (∀ o k, ¬ (o = 1 ∧ (k = 23 ∨ k = 28)) → ¬ (58 ≤ o ∧ o ≤ 65) → zs_i τ' o k = zs_i τ o k) ∧ (∀ o k, zs_r τ' o k = zs_r τ o k) := by
  have hq2 := yQQ_b hq
  have hq3 : q = 3 ∨ q = 30 := hq
  -- the places
  have l4 : ∀ d i N τ1, i + d = 4 → d < N → y0g τ τ1 → yX2 τ1 (yf0 (zs_i τ (q + 8)) (ye4 tt (zs_i τ (q + 9))) V 4 i) → ∃ τ', zf_M_check_125 F N (nI i) τ1 = zf_M_check_189 F F τ' ∧ ymW τ' tt (yW1 (yU (yf0 (zs_i τ (q + 8)) (zs_i τ (q + 9)) V 4 tt) 33 (-1))) ∧ zs_i τ' 1 28 = nI 0 ∧ (∀ o k, ¬ (o = 1 ∧ (k = 23 ∨ k = 28)) → ¬ (58 ≤ o ∧ o ≤ 65) → zs_i τ' o k = zs_i τ o k) ∧ (∀ o k, zs_r τ' o k = zs_r τ o k) := by
    intro d
    induction d with
    | zero =>
      intro i N τ1 h1 h2 h3 h5
      obtain ⟨N, rfl⟩ : ∃ q, N = q + 1 := ⟨N - 1, by omega⟩
      have hi : i = 4 := by omega
      subst hi
      have h5' := yX2_w (k := 33) (x := -1) h5 (by decide)
      rw [show ypi 33 = 33 from rfl] at h5'
      have hg := y0g_t h3 (y0g_w τ1 33 (-1))
      obtain ⟨τ2, a1, a2, a3, a4⟩ := ym_rf (F := F) hF ((hg.1 _ _ (by omega)).trans h23) ((hg.1 _ _ (by omega)).trans h24) ((hg.1 _ _ (by omega)).trans h28) ((hg.1 _ _ (by omega)).trans h29) (yX2_t hV h4 h5')
      refine ⟨zs_wi τ2 1 28 (nI 0), ?_, ymW_F (fun o k w => yt_in _ _ (by omega)) a2, yt_ie _ _ _ _, fun o k w1 w2 => ?_, fun o k => (a4 o k).trans (hg.2 o k)⟩
      · rw [zf_M_check_125, if_pos (by decide), show zq_b 33 34 = true from by decide, yq_g, show (33 : Int32).toNatClampNeg = 33 from by decide, yq_v, a1, yq_c, yq_v]
        rfl
      · rw [yt_in _ _ (by omega), a3 o k (by omega) (by omega), hg.1 o k (by omega)]
    | succ d ih =>
      intro i N τ1 h1 h2 h3 h5
      obtain ⟨N, rfl⟩ : ∃ q, N = q + 1 := ⟨N - 1, by omega⟩
      have h5' := yX2_w (k := 12 + i) (x := ye4 tt (zs_i τ (q + 9)) i) h5 (by omega)
      rw [yf0_c hV (by omega), (ypi_pl i (by omega)).1] at h5'
      have hg := y0g_t h3 (y0g_w τ1 (12 + 5 * i + 3) (ye4 tt (zs_i τ (q + 9)) i))
      have e1 : zf_M_check_125 F (N + 1) (nI i) τ1 = zf_M_check_125 F N (nI (i + 1)) (zs_wi τ1 65 (12 + 5 * i + 3) (ye4 tt (zs_i τ (q + 9)) i)) := by
        rw [zf_M_check_125, if_neg (show ¬ (4 : Int32) ≤ nI i from nI_ge (b := 4) (by omega) (by decide))]
        unfold zf_M_each zf_M_check_164
        rw [yq_c, h3.2, hr2, zq_qr (by omega), yv_k hq, yq_g, h3.1 _ _ (by omega), c2]
        unfold ye4
        by_cases ht : i < tt
        · rw [if_neg (nI_ge ht (by omega)), zq_qr (by omega), yv_k hq, yq_g, yv_r4 hq, zq_qr (by omega), yv_k9 hq, yq_g, yv_z9 hq, yn_b (show i < 4 by omega) (by decide), yq_g, show (12 : Int32) + 5 * nI i + 3 = nI (12 + 5 * i + 3) from yn_ea i 3, yn_b (show 12 + 5 * i + 3 < 34 by omega) (by decide), yq_g, nI_clamp (by omega), nI_clamp (by omega), h3.1 _ _ (by omega), yq_v, nI_1, yq_v, if_pos ht]
        · rw [if_pos (nI_le (by omega) (by omega)), show (12 : Int32) + 5 * nI i + 3 = nI (12 + 5 * i + 3) from yn_ea i 3, yn_b (show 12 + 5 * i + 3 < 34 by omega) (by decide), yq_g, nI_clamp (by omega), yq_v, nI_1, yq_v, if_neg ht]
      rw [e1]
      exact ih (i + 1) N _ (by omega) (by omega) hg h5'
  -- the owners
  have l3 : ∀ d i N τ1, i + d = 4 → d < N → y0g τ τ1 → yX2 τ1 (yf0 (zs_i τ (q + 8)) (ye4 tt (zs_i τ (q + 9))) V i 0) → ∃ τ', zf_M_check_102 F N (nI i) τ1 = zf_M_check_189 F F τ' ∧ ymW τ' tt (yW1 (yU (yf0 (zs_i τ (q + 8)) (zs_i τ (q + 9)) V 4 tt) 33 (-1))) ∧ zs_i τ' 1 28 = nI 0 ∧ (∀ o k, ¬ (o = 1 ∧ (k = 23 ∨ k = 28)) → ¬ (58 ≤ o ∧ o ≤ 65) → zs_i τ' o k = zs_i τ o k) ∧ (∀ o k, zs_r τ' o k = zs_r τ o k) := by
    intro d
    induction d with
    | zero =>
      intro i N τ1 h1 h2 h3 h5
      obtain ⟨N, rfl⟩ : ∃ q, N = q + 1 := ⟨N - 1, by omega⟩
      have hi : i = 4 := by omega
      subst hi
      rw [zf_M_check_102, if_pos (by decide)]
      exact l4 4 0 F τ1 (by omega) (by omega) h3 h5
    | succ d ih =>
      intro i N τ1 h1 h2 h3 h5
      obtain ⟨N, rfl⟩ : ∃ q, N = q + 1 := ⟨N - 1, by omega⟩
      have h5' := yX2_w (k := 8 + i) (x := -1) h5 (by omega)
      rw [yf0_b hV (by omega), show ypi (8 + i) = 8 + i from if_pos (by omega)] at h5'
      rw [zf_M_check_102, if_neg (show ¬ (4 : Int32) ≤ nI i from nI_ge (b := 4) (by omega) (by decide)), show (8 : Int32) + nI i = nI (8 + i) from nI_add 8 i, yn_b (show 8 + i < 34 by omega) (by decide), yq_g, nI_clamp (by omega), yq_v, nI_1, yq_v]
      exact ih (i + 1) N _ (by omega) (by omega) (y0g_t h3 (y0g_w τ1 _ _)) h5'
  -- the values
  have l2 : ∀ d i N τ1, i + d = V → d < N → y0g τ τ1 → yX2 τ1 (yf0 (zs_i τ (q + 8)) (ye4 tt (zs_i τ (q + 9))) i 0 0) → ∃ τ', zf_M_check_65 F N (nI i) τ1 = zf_M_check_189 F F τ' ∧ ymW τ' tt (yW1 (yU (yf0 (zs_i τ (q + 8)) (zs_i τ (q + 9)) V 4 tt) 33 (-1))) ∧ zs_i τ' 1 28 = nI 0 ∧ (∀ o k, ¬ (o = 1 ∧ (k = 23 ∨ k = 28)) → ¬ (58 ≤ o ∧ o ≤ 65) → zs_i τ' o k = zs_i τ o k) ∧ (∀ o k, zs_r τ' o k = zs_r τ o k) := by
    intro d
    induction d with
    | zero =>
      intro i N τ1 h1 h2 h3 h5
      obtain ⟨N, rfl⟩ : ∃ q, N = q + 1 := ⟨N - 1, by omega⟩
      have hi : i = V := by omega
      subst hi
      rw [zf_M_check_65, h3.2, hr2, zq_qr (by omega), yv_k hq, yq_g, yv_r0 hq, zq_qr (by omega), yv_k1 hq, yq_g, h3.1 _ _ (by omega), c0, if_pos (nI_le (Nat.le_refl _) (by omega))]
      exact l3 4 0 F τ1 (by omega) (by omega) h3 h5
    | succ d ih =>
      intro i N τ1 h1 h2 h3 h5
      obtain ⟨N, rfl⟩ : ∃ q, N = q + 1 := ⟨N - 1, by omega⟩
      have h5' := yX2_w (k := i) (x := zs_i τ (q + 8) i) h5 (by omega)
      rw [yf0_a (by omega), show ypi i = i from if_pos (by omega)] at h5'
      rw [zf_M_check_65, h3.2, hr2, zq_qr (by omega), yv_k hq, yq_g, yv_r0 hq, zq_qr (by omega), yv_k1 hq, yq_g, h3.1 _ _ (by omega), c0, if_neg (nI_ge (by omega) (by omega)), zq_qr (by omega), yv_k hq, yq_g, yv_r3 hq, zq_qr (by omega), yv_k8 hq, yq_g, yv_z8 hq, yn_b (show i < 8 by omega) (by decide), yq_g, yn_b (show i < 34 by omega) (by decide), yq_g, nI_clamp (by omega), h3.1 _ _ (by omega), yq_v, nI_1, yq_v]
      exact ih (i + 1) N _ (by omega) (by omega) (y0g_t h3 (y0g_w τ1 _ _)) h5'
  exact l2 V 0 F τ (by omega) (by omega) ⟨fun _ _ _ => rfl, fun _ _ => rfl⟩ (fun k hk => by rw [yf0_z]; exact h65 _ (ypi_f k hk).1)
theorem yf0_v {tt S : Nat} {B Tt kd tg : Nat → Nat} {wy : Nat → Nat → Int32} {ex : Nat → List (Nat × Int32)} {a e : Nat → Int32} (hpp : yPp V L tt S B Tt kd tg wy ex) (ha : ∀ x, x < V → yb8 (a x)) (he : ∀ t, t < tt → (e t = -1 ∨ ∃ y, B t ≤ y ∧ y < B (t + 1) ∧ e t = nI y)) : yRV tt B kd (yU (yf0 a e V 4 tt) 33 (-1)) := by
  have h4 : tt ≤ 4 := hpp.1.2.2.2.1
  have hV : V ≤ 8 := hpp.1.1
  have hS := hpp.1
  have bm : yb8 (-1) := (yb8_n 1 (by decide)).2
  have b0 : yb8 0 := yb8_01.1
  have hpl : ∀ t, t < tt → yU (yf0 a e V 4 tt) 33 (-1) (12 + t) = e t := fun t ht => by
    rw [yU_n (by omega)]
    unfold yf0
    rw [if_neg (by omega), if_neg (by omega), if_pos (by omega), show 12 + t - 12 = t by omega]
  refine ⟨fun k hk => ?_, fun t h1 h2 => ?_, fun t ht => ?_, fun t ht => ?_, fun l hl => ?_, Or.inl ?_⟩
  · by_cases e33 : k = 33
    · rw [e33, yU_e]
      exact bm
    · rw [yU_n e33]
      unfold yf0
      by_cases c1 : k < V
      · rw [if_pos c1]
        exact ha k c1
      · rw [if_neg c1]
        by_cases c2 : 8 ≤ k ∧ k < 8 + 4
        · rw [if_pos c2]
          exact bm
        · rw [if_neg c2]
          by_cases c3 : 12 ≤ k ∧ k < 12 + tt
          · rw [if_pos c3]
            have := hpp.2.1.2.2.2 (k - 12 + 1) (by omega)
            exact yb8_w (he (k - 12) (by omega)) (by omega)
          · rw [if_neg c3]
            exact b0
  · rw [yU_n (by omega)]
    unfold yf0
    rw [if_neg (by omega), if_neg (by omega), if_neg (by omega)]
  · rw [hpl t ht]
    exact he t ht
  · refine Or.inl ?_
    rw [yU_n (by omega)]
    unfold yf0
    rw [if_neg (by omega), if_neg (by omega), if_neg (by omega)]
  · refine Or.inl ?_
    rw [yU_n (by omega)]
    unfold yf0
    rw [if_neg (by omega), if_pos (by omega)]
  · rw [yU_n (by omega)]
    unfold yf0
    rw [if_neg (by omega), if_neg (by omega), if_neg (by omega)]
end YFT
