/-! explorer: the first state -/
section YFS
variable {F n m p q t V L T : Nat} {v : Nat → Nat}
theorem yf_I0 {x : Int32} {o n : Nat} (hk : zq_k 0 o 0 = true) (hn : (zd_sh 0 o).2 = n) (hb : n < 2 ^ 31) : ∀ d i N σ, i + d = n → d < N → ∃ σ', zf_Arrays_fillI0_5 F N o x (nI i) (nI n) σ = some σ' ∧ (∀ k, i ≤ k → k < n → zs_i σ' o k = x) ∧ (∀ o' k, ¬ (o' = o ∧ i ≤ k ∧ k < n) → zs_i σ' o' k = zs_i σ o' k) ∧ (∀ o k, zs_r σ' o k = zs_r σ o k) ∧ (∀ o k, zs_l σ' o k = zs_l σ o k) := by
  intro d
  induction d with
  | zero =>
    intro i N σ h1 h2
    obtain ⟨N, rfl⟩ : ∃ q, N = q + 1 := ⟨N - 1, by omega⟩
    refine ⟨σ, ?_, fun k w1 w2 => by omega, fun _ _ _ => rfl, fun _ _ => rfl, fun _ _ => rfl⟩
    rw [zf_Arrays_fillI0_5, if_pos (nI_le (by omega) (by omega))]
  | succ d ih =>
    intro i N σ h1 h2
    obtain ⟨N, rfl⟩ : ∃ q, N = q + 1 := ⟨N - 1, by omega⟩
    obtain ⟨σ', z1, z2, z3, z4, z5⟩ := ih (i + 1) N (zs_wi σ o i x) (by omega) (by omega)
    refine ⟨σ', ?_, fun k w1 w2 => ?_, fun o' k w => ?_, z4, z5⟩
    · rw [zf_Arrays_fillI0_5, if_neg (nI_ge (by omega) (by omega)), hk, yq_g, hn, yn_b (show i < n by omega) hb, yq_g, nI_clamp (by omega), yq_v, nI_1, yq_v]
      exact z1
    · by_cases e : k = i
      · rw [e, z3 _ _ (by omega), yt_ie]
      · exact z2 k (by omega) w2
    · rw [z3 _ _ (by omega), yt_in _ _ (by omega)]
theorem yf_I1 {x : Int32} {o n : Nat} (hk : zq_k 1 o 0 = true) (hn : (zd_sh 1 o).2 = n) (hb : n < 2 ^ 31) : ∀ d i N σ, i + d = n → d < N → ∃ σ', zf_Arrays_fillI1_5 F N o x (nI i) (nI n) σ = some σ' ∧ (∀ k, i ≤ k → k < n → zs_i σ' o k = x) ∧ (∀ o' k, ¬ (o' = o ∧ i ≤ k ∧ k < n) → zs_i σ' o' k = zs_i σ o' k) ∧ (∀ o k, zs_r σ' o k = zs_r σ o k) ∧ (∀ o k, zs_l σ' o k = zs_l σ o k) := by
  intro d
  induction d with
  | zero =>
    intro i N σ h1 h2
    obtain ⟨N, rfl⟩ : ∃ q, N = q + 1 := ⟨N - 1, by omega⟩
    refine ⟨σ, ?_, fun k w1 w2 => by omega, fun _ _ _ => rfl, fun _ _ => rfl, fun _ _ => rfl⟩
    rw [zf_Arrays_fillI1_5, if_pos (nI_le (by omega) (by omega))]
  | succ d ih =>
    intro i N σ h1 h2
    obtain ⟨N, rfl⟩ : ∃ q, N = q + 1 := ⟨N - 1, by omega⟩
    obtain ⟨σ', z1, z2, z3, z4, z5⟩ := ih (i + 1) N (zs_wi σ o i x) (by omega) (by omega)
    refine ⟨σ', ?_, fun k w1 w2 => ?_, fun o' k w => ?_, z4, z5⟩
    · rw [zf_Arrays_fillI1_5, if_neg (nI_ge (by omega) (by omega)), hk, yq_g, hn, yn_b (show i < n by omega) hb, yq_g, nI_clamp (by omega), yq_v, nI_1, yq_v]
      exact z1
    · by_cases e : k = i
      · rw [e, z3 _ _ (by omega), yt_ie]
      · exact z2 k (by omega) w2
    · rw [z3 _ _ (by omega), yt_in _ _ (by omega)]
/-- the first row, as it is built -/
def yf0 (a e : Nat → Int32) (i1 i2 i3 k : Nat) : Int32 := if k < i1 then a k else if 8 ≤ k ∧ k < 8 + i2 then -1 else if 12 ≤ k ∧ k < 12 + i3 then e (k - 12) else 0
theorem yf0_a {a e : Nat → Int32} {i : Nat} (hi : i < 8) : yU (yf0 a e i 0 0) i (a i) = yf0 a e (i + 1) 0 0 := by
  funext k
  by_cases h : k = i
  · rw [h, yU_e]
    exact (if_pos (by omega)).symm
  · rw [yU_n h]
    unfold yf0
    by_cases h2 : k < i
    · rw [if_pos h2, if_pos (by omega)]
    · rw [if_neg h2, if_neg (show ¬ k < i + 1 by omega)]
theorem yf0_b {a e : Nat → Int32} {i : Nat} (hV : V ≤ 8) (hi : i < 4) : yU (yf0 a e V i 0) (8 + i) (-1) = yf0 a e V (i + 1) 0 := by
  funext k
  unfold yf0
  by_cases h : k = 8 + i
  · rw [h, yU_e, if_neg (by omega), if_pos (by omega)]
  · rw [yU_n h]
    by_cases h2 : k < V
    · rw [if_pos h2, if_pos h2]
    · rw [if_neg h2, if_neg h2]
      by_cases h3 : 8 ≤ k ∧ k < 8 + i
      · rw [if_pos h3, if_pos (by omega)]
      · rw [if_neg h3, if_neg (show ¬ (8 ≤ k ∧ k < 8 + (i + 1)) by omega)]
theorem yf0_c {a e : Nat → Int32} {i : Nat} (hV : V ≤ 8) (hi : i < 4) : yU (yf0 a e V 4 i) (12 + i) (e i) = yf0 a e V 4 (i + 1) := by
  funext k
  unfold yf0
  by_cases h : k = 12 + i
  · rw [h, yU_e, if_neg (by omega), if_neg (by omega), if_pos (by omega), show 12 + i - 12 = i by omega]
  · rw [yU_n h]
    by_cases h2 : k < V
    · rw [if_pos h2, if_pos h2]
    · rw [if_neg h2, if_neg h2]
      by_cases h3 : 8 ≤ k ∧ k < 8 + 4
      · rw [if_pos h3, if_pos h3]
      · rw [if_neg h3, if_neg h3]
        by_cases h4 : 12 ≤ k ∧ k < 12 + i
        · rw [if_pos h4, if_pos (by omega)]
        · rw [if_neg h4, if_neg (show ¬ (12 ≤ k ∧ k < 12 + (i + 1)) by omega)]
theorem yf0_z {a e : Nat → Int32} (k : Nat) : yf0 a e 0 0 0 k = 0 := by
  unfold yf0
  rw [if_neg (by omega), if_neg (by omega), if_neg (by omega)]
/-- .. in the class -/
def y0c (σ : zs_S) (D : Nat → Int32) : Prop := zs_i σ 10 9 = nI 0 ∧ ∀ k, k < 34 → zs_i σ 11 k = D k
def y0f (σ σ' : zs_S) : Prop := (∀ o k, o ≠ 11 → zs_i σ' o k = zs_i σ o k) ∧ (∀ o k, zs_r σ' o k = zs_r σ o k) ∧ (∀ o k, zs_l σ' o k = zs_l σ o k)
theorem y0f_t {a b c : zs_S} (h : y0f a b) (g : y0f b c) : y0f a c := ⟨fun o k x => (g.1 o k x).trans (h.1 o k x), fun o k => (g.2.1 o k).trans (h.2.1 o k), fun o k => (g.2.2 o k).trans (h.2.2 o k)⟩
theorem y0_set {k : Nat} {x : Int32} {σ : zs_S} (h : zs_i σ 10 9 = nI 0) (hk : k < 34) (hx : yb8 x) : zf_States_set F (nI k) x σ = some (zs_wi σ 11 k x) := by
  have hx' : vp_nar .byte (x.toInt8.toInt32) = x := by
    have hx : x.toInt8.toInt32 = x := hx
    rw [hx, vp_nar_byte, hx]
  unfold zf_States_set
  rw [h, yn_34, nI_add, show 34 * 0 + k = k by omega, yn_b (show k < 27234 by omega) (by decide), yq_g, nI_clamp (by omega), hx', yq_v]
theorem y0f_w (σ : zs_S) (k : Nat) (x : Int32) : y0f σ (zs_wi σ 11 k x) := ⟨fun o j w => yt_in _ _ (by omega), fun _ _ => rfl, fun _ _ => rfl⟩
theorem y0c_w {k : Nat} {x : Int32} {D : Nat → Int32} {σ : zs_S} (h : y0c σ D) : y0c (zs_wi σ 11 k x) (yU D k x) := by
  refine ⟨(yt_in _ _ (by omega)).trans h.1, fun j hj => ?_⟩
  by_cases e : j = k
  · rw [e, yU_e, yt_ie]
  · rw [yU_n e, yt_in _ _ (by omega)]
    exact h.2 j hj
theorem yx_first {tt : Nat} {σ : zs_S} (hp : yPP p) (hF : 900 < F) (hV : V ≤ 8) (h4 : tt ≤ 4) (h138 : zs_r σ 138 1 = p) (h9 : zs_i σ 10 9 = nI 0) (c0 : zs_i σ p 0 = nI V) (c2 : zs_i σ p 2 = nI tt) (ha : ∀ x, x < V → yb8 (zs_i σ (p + 1) x)) (he : ∀ t, t < tt → yb8 (zs_i σ (p + 3) t)) : ∃ σ', zf_Explorer_buildFirst F σ = some σ' ∧ y0f σ σ' ∧ y0c σ' (yU (yf0 (zs_i σ (p + 1)) (zs_i σ (p + 3)) V 4 tt) 33 (-1)) := by
  have hp2 := yPP_b hp
  have bm : yb8 (-1) := (yb8_n 1 (by decide)).2
  have b0 : yb8 0 := yb8_01.1
  -- the places
  have l4 : ∀ d i N σ1, i + d = tt → d < N → y0f σ σ1 → y0c σ1 (yf0 (zs_i σ (p + 1)) (zs_i σ (p + 3)) V 4 i) → ∃ σ', zf_Explorer_buildFirst_86 F N (nI i) σ1 = some σ' ∧ y0f σ σ' ∧ y0c σ' (yU (yf0 (zs_i σ (p + 1)) (zs_i σ (p + 3)) V 4 tt) 33 (-1)) := by
    intro d
    induction d with
    | zero =>
      intro i N σ1 h1 h2 h3 h5
      obtain ⟨N, rfl⟩ : ∃ q, N = q + 1 := ⟨N - 1, by omega⟩
      have hi : i = tt := by omega
      subst hi
      have s33 : zf_States_set F 33 (-1) σ1 = some (zs_wi σ1 11 33 (-1)) := y0_set (k := 33) h5.1 (by decide) bm
      refine ⟨_, ?_, y0f_t h3 (y0f_w σ1 33 (-1)), y0c_w h5⟩
      rw [zf_Explorer_buildFirst_86, h3.2.1, h138, zq_qr (by omega), yp_k hp, yq_g, h3.1 _ _ (by omega), c2, if_pos (nI_le (Nat.le_refl _) (by omega)), s33, yq_s]
    | succ d ih =>
      intro i N σ1 h1 h2 h3 h5
      obtain ⟨N, rfl⟩ : ∃ q, N = q + 1 := ⟨N - 1, by omega⟩
      have hs := y0_set (F := F) (k := 12 + i) (x := zs_i σ (p + 3) i) h5.1 (by omega) (he i (by omega))
      have h5' := y0c_w (k := 12 + i) (x := zs_i σ (p + 3) i) h5
      rw [yf0_c hV (by omega)] at h5'
      rw [zf_Explorer_buildFirst_86, h3.2.1, h138, zq_qr (by omega), yp_k hp, yq_g, h3.1 _ _ (by omega), c2, if_neg (nI_ge (by omega) (by omega)), zq_qr (by omega), yp_k hp, yq_g, yp_r6 hp, zq_qr (by omega), yp_k3 hp, yq_g, yp_z3 hp, yn_b (show i < 4 by omega) (by decide), yq_g, nI_clamp (by omega), h3.1 _ _ (by omega), show (12 : Int32) + nI i = nI (12 + i) from nI_add 12 i, hs, yq_s, nI_1, yq_v]
      exact ih (i + 1) N _ (by omega) (by omega) (y0f_t h3 (y0f_w σ1 _ _)) h5'
  -- the owners
  have l3 : ∀ d i N σ1, i + d = 4 → d < N → y0f σ σ1 → y0c σ1 (yf0 (zs_i σ (p + 1)) (zs_i σ (p + 3)) V i 0) → ∃ σ', zf_Explorer_buildFirst_61 F N (nI i) σ1 = some σ' ∧ y0f σ σ' ∧ y0c σ' (yU (yf0 (zs_i σ (p + 1)) (zs_i σ (p + 3)) V 4 tt) 33 (-1)) := by
    intro d
    induction d with
    | zero =>
      intro i N σ1 h1 h2 h3 h5
      obtain ⟨N, rfl⟩ : ∃ q, N = q + 1 := ⟨N - 1, by omega⟩
      have hi : i = 4 := by omega
      subst hi
      rw [zf_Explorer_buildFirst_61, if_pos (by decide)]
      exact l4 tt 0 F σ1 (by omega) (by omega) h3 h5
    | succ d ih =>
      intro i N σ1 h1 h2 h3 h5
      obtain ⟨N, rfl⟩ : ∃ q, N = q + 1 := ⟨N - 1, by omega⟩
      have hs := y0_set (F := F) (k := 8 + i) (x := -1) h5.1 (by omega) bm
      have h5' := y0c_w (k := 8 + i) (x := -1) h5
      rw [yf0_b hV (by omega)] at h5'
      rw [zf_Explorer_buildFirst_61, if_neg (show ¬ (4 : Int32) ≤ nI i from nI_ge (b := 4) (by omega) (by decide)), show (8 : Int32) + nI i = nI (8 + i) from nI_add 8 i, hs, yq_s, nI_1, yq_v]
      exact ih (i + 1) N _ (by omega) (by omega) (y0f_t h3 (y0f_w σ1 _ _)) h5'
  -- the values
  have l2 : ∀ d i N σ1, i + d = V → d < N → y0f σ σ1 → y0c σ1 (yf0 (zs_i σ (p + 1)) (zs_i σ (p + 3)) i 0 0) → ∃ σ', zf_Explorer_buildFirst_25 F N (nI i) σ1 = some σ' ∧ y0f σ σ' ∧ y0c σ' (yU (yf0 (zs_i σ (p + 1)) (zs_i σ (p + 3)) V 4 tt) 33 (-1)) := by
    intro d
    induction d with
    | zero =>
      intro i N σ1 h1 h2 h3 h5
      obtain ⟨N, rfl⟩ : ∃ q, N = q + 1 := ⟨N - 1, by omega⟩
      have hi : i = V := by omega
      subst hi
      rw [zf_Explorer_buildFirst_25, h3.2.1, h138, zq_qr (by omega), yp_k hp, yq_g, h3.1 _ _ (by omega), c0, if_pos (nI_le (Nat.le_refl _) (by omega))]
      exact l3 4 0 F σ1 (by omega) (by omega) h3 h5
    | succ d ih =>
      intro i N σ1 h1 h2 h3 h5
      obtain ⟨N, rfl⟩ : ∃ q, N = q + 1 := ⟨N - 1, by omega⟩
      have hs := y0_set (F := F) (k := i) (x := zs_i σ (p + 1) i) h5.1 (by omega) (ha i (by omega))
      have h5' := y0c_w (k := i) (x := zs_i σ (p + 1) i) h5
      rw [yf0_a (by omega)] at h5'
      rw [zf_Explorer_buildFirst_25, h3.2.1, h138, zq_qr (by omega), yp_k hp, yq_g, h3.1 _ _ (by omega), c0, if_neg (nI_ge (by omega) (by omega)), zq_qr (by omega), yp_k hp, yq_g, yp_r4 hp, zq_qr (by omega), yp_k1 hp, yq_g, yp_z1 hp, yn_b (show i < 8 by omega) (by decide), yq_g, nI_clamp (by omega), h3.1 _ _ (by omega), hs, yq_s, nI_1, yq_v]
      exact ih (i + 1) N _ (by omega) (by omega) (y0f_t h3 (y0f_w σ1 _ _)) h5'
  -- all cells
  have l1 : ∀ d i N σ1, i + d = 34 → d < N → y0f σ σ1 → (∀ k, k < i → zs_i σ1 11 k = 0) → ∃ σ', zf_Explorer_buildFirst_2 F N (nI i) σ1 = some σ' ∧ y0f σ σ' ∧ y0c σ' (yU (yf0 (zs_i σ (p + 1)) (zs_i σ (p + 3)) V 4 tt) 33 (-1)) := by
    intro d
    induction d with
    | zero =>
      intro i N σ1 h1 h2 h3 h5
      obtain ⟨N, rfl⟩ : ∃ q, N = q + 1 := ⟨N - 1, by omega⟩
      have hi : i = 34 := by omega
      subst hi
      rw [zf_Explorer_buildFirst_2, if_pos (by decide)]
      exact l2 V 0 F σ1 (by omega) (by omega) h3 ⟨(h3.1 _ _ (by omega)).trans h9, fun k hk => by rw [yf0_z]; exact h5 k hk⟩
    | succ d ih =>
      intro i N σ1 h1 h2 h3 h5
      obtain ⟨N, rfl⟩ : ∃ q, N = q + 1 := ⟨N - 1, by omega⟩
      have hs := y0_set (F := F) (k := i) (x := 0) ((h3.1 _ _ (by omega)).trans h9) (by omega) b0
      rw [zf_Explorer_buildFirst_2, if_neg (show ¬ (34 : Int32) ≤ nI i from nI_ge (b := 34) (by omega) (by decide)), hs, yq_s, nI_1, yq_v]
      refine ih (i + 1) N _ (by omega) (by omega) (y0f_t h3 (y0f_w σ1 _ _)) (fun k hk => ?_)
      by_cases e : k = i
      · rw [e, yt_ie]
      · rw [yt_in _ _ (by omega)]
        exact h5 k (by omega)
  exact l1 34 0 F σ (by omega) (by omega) ⟨fun _ _ _ => rfl, fun _ _ => rfl, fun _ _ => rfl⟩ (fun k hk => by omega)
/-- the first row is kept -/
def yW1 (X : Nat → Int32) : Nat × (Nat → Nat → Int32) × (Nat → Int32) × (Nat → Int32) × (Nat → Int32) × Nat × (Nat → Nat) × Bool := (1, fun _ => X, fun _ => 0, fun _ => -1, fun _ => -1, 0, fun _ => 0, false)
theorem yx_kf {X : Nat → Int32} {σ : zs_S} (hF : 900 < F) (h9 : zs_i σ 10 9 = nI 0) (h10 : zs_i σ 10 10 = nI 0) (h11 : zs_i σ 10 11 = 0) (h18 : ∀ b, b < 1024 → zs_i σ 18 b = -2) (hX : ∀ k, k < 34 → zs_i σ 11 k = X k) : ∃ σ', zf_States_keep F (-1) (-1) σ = some σ' ∧ ycW σ' (yW1 X) ∧ (∀ o k, ¬ (10 ≤ o ∧ o ≤ 19) → zs_i σ' o k = zs_i σ o k) ∧ (∀ o k, zs_r σ' o k = zs_r σ o k) ∧ (∀ o k, zs_l σ' o k = zs_l σ o k) := by
  have hz : yZc σ 0 (fun _ => X) := ⟨⟨h9, by omega⟩, fun s k hs => by omega, fun s s' hs => by omega, fun s hs => by omega, h18, fun s hs => by omega⟩
  have hXb : yXb σ 0 X := fun k hk => by rw [show 34 * 0 + k = k by omega]; exact hX k hk
  have hbk := ybk_f X
  have ek : zf_States_keep F (-1) (-1) σ = zq_c (zf_States_findBuilt F (yhs X) σ) fun r5 σ4 => if r5 = (-2) then (if (zs_i σ4 10 9) = 800 then zq_v (zs_wi σ4 10 11 1) fun σ7 => some σ7 else zf_States_keep_35 F (-1) (-1) (yhs X) r5 σ4) else zf_States_keep_35 F (-1) (-1) (yhs X) r5 σ4 := by
    unfold zf_States_keep
    rw [yy_hash h9 (by omega) hXb (by omega), yq_c]
  rw [ek]
  rcases yy_findb (F := F) hz hXb hF with ⟨u, u1, -⟩ | ⟨u1, u2⟩
  · omega
  · have ea : zf_States_addBuilt F (yhs X) (-1) (-1) σ = some (zs_wi (zs_wi (zs_wi (zs_wi (zs_wi (zs_wi (zs_wi σ 12 0 0) 13 0 (-1)) 14 0 (-1)) 17 0 (yhs X)) 19 0 (zs_i σ 18 (ybk X))) 18 (ybk X) (nI 0)) 10 9 (nI 1)) := by
      have c9 : zs_i (zs_wi σ 12 0 0) 10 9 = nI 0 := by simp (disch := omega) only [yt_in, yt_ie, yt_ir, yt_il, yt_ri, yt_rl, yt_rn, yt_re, yt_li, yt_lr, yt_ln, yt_le]; exact h9
      have c9b : zs_i (zs_wi (zs_wi σ 12 0 0) 13 0 (-1)) 10 9 = nI 0 := by simp (disch := omega) only [yt_in, yt_ie, yt_ir, yt_il, yt_ri, yt_rl, yt_rn, yt_re, yt_li, yt_lr, yt_ln, yt_le]; exact h9
      have c9c : zs_i (zs_wi (zs_wi (zs_wi σ 12 0 0) 13 0 (-1)) 14 0 (-1)) 10 9 = nI 0 := by simp (disch := omega) only [yt_in, yt_ie, yt_ir, yt_il, yt_ri, yt_rl, yt_rn, yt_re, yt_li, yt_lr, yt_ln, yt_le]; exact h9
      have c9d : zs_i (zs_wi (zs_wi (zs_wi (zs_wi σ 12 0 0) 13 0 (-1)) 14 0 (-1)) 17 0 (yhs X)) 10 9 = nI 0 := by simp (disch := omega) only [yt_in, yt_ie, yt_ir, yt_il, yt_ri, yt_rl, yt_rn, yt_re, yt_li, yt_lr, yt_ln, yt_le]; exact h9
      have c18 : zs_i (zs_wi (zs_wi (zs_wi (zs_wi σ 12 0 0) 13 0 (-1)) 14 0 (-1)) 17 0 (yhs X)) 18 (ybk X) = zs_i σ 18 (ybk X) := by simp (disch := omega) only [yt_in, yt_ie, yt_ir, yt_il, yt_ri, yt_rl, yt_rn, yt_re, yt_li, yt_lr, yt_ln, yt_le]
      have c9e : zs_i (zs_wi (zs_wi (zs_wi (zs_wi (zs_wi σ 12 0 0) 13 0 (-1)) 14 0 (-1)) 17 0 (yhs X)) 19 0 (zs_i σ 18 (ybk X))) 10 9 = nI 0 := by simp (disch := omega) only [yt_in, yt_ie, yt_ir, yt_il, yt_ri, yt_rl, yt_rn, yt_re, yt_li, yt_lr, yt_ln, yt_le]; exact h9
      have c9f : zs_i (zs_wi (zs_wi (zs_wi (zs_wi (zs_wi (zs_wi σ 12 0 0) 13 0 (-1)) 14 0 (-1)) 17 0 (yhs X)) 19 0 (zs_i σ 18 (ybk X))) 18 (ybk X) (nI 0)) 10 9 = nI 0 := by simp (disch := omega) only [yt_in, yt_ie, yt_ir, yt_il, yt_ri, yt_rl, yt_rn, yt_re, yt_li, yt_lr, yt_ln, yt_le]; exact h9
      have b8 : zq_b (nI 0) 800 = true := yn_b (by omega) (by decide)
      have n0 : (nI 0).toNatClampNeg = 0 := nI_clamp (by omega)
      unfold zf_States_addBuilt zf_States_addBuilt_32
      rw [hbk.2, yq_v, if_pos rfl, h9, b8, yq_g, n0, yq_v, c9, b8, yq_g, n0, yq_v, c9b, b8, yq_g, n0, yq_v, c9c, b8, yq_g, n0, yq_v, yn_b hbk.1 (by decide), yq_g, c9d, b8, yq_g, n0, nI_clamp (show ybk X < 2 ^ 31 by omega), c18, yq_v, yq_g, c9e, yq_v, c9f, nI_1, yq_v]
    unfold zf_States_keep_35 zf_States_keep_55 zf_States_keep_105
    rw [u2, yq_c, if_pos rfl, h9, if_neg (by decide), if_pos rfl, yq_v, ea, yq_s, if_pos rfl]
    refine ⟨_, rfl, ⟨⟨?_, fun s hs => ?_, ?_, fun j hj => ?_⟩, ?_⟩, fun o k w => ?_, fun _ _ => rfl, fun _ _ => rfl⟩
    · have := yZc_new (σ' := zs_wi (zs_wi (zs_wi (zs_wi (zs_wi (zs_wi (zs_wi σ 12 0 0) 13 0 (-1)) 14 0 (-1)) 17 0 (yhs X)) 19 0 (zs_i σ 18 (ybk X))) 18 (ybk X) (nI 0)) 10 9 (nI 1)) hz hXb (by omega) u1 (by simp (disch := omega) only [yt_in, yt_ie, yt_ir, yt_il, yt_ri, yt_rl, yt_rn, yt_re, yt_li, yt_lr, yt_ln, yt_le]) (fun k => by simp (disch := omega) only [yt_in, yt_ie, yt_ir, yt_il, yt_ri, yt_rl, yt_rn, yt_re, yt_li, yt_lr, yt_ln, yt_le]) ⟨by simp (disch := omega) only [yt_in, yt_ie, yt_ir, yt_il, yt_ri, yt_rl, yt_rn, yt_re, yt_li, yt_lr, yt_ln, yt_le], fun s hs => by omega⟩ ⟨by simp (disch := omega) only [yt_in, yt_ie, yt_ir, yt_il, yt_ri, yt_rl, yt_rn, yt_re, yt_li, yt_lr, yt_ln, yt_le], fun b hb => by simp (disch := omega) only [yt_in, yt_ie, yt_ir, yt_il, yt_ri, yt_rl, yt_rn, yt_re, yt_li, yt_lr, yt_ln, yt_le]⟩ ⟨by simp (disch := omega) only [yt_in, yt_ie, yt_ir, yt_il, yt_ri, yt_rl, yt_rn, yt_re, yt_li, yt_lr, yt_ln, yt_le], fun s hs => by omega⟩
      have e1 : yRu (fun _ => X) 0 X = fun _ => X := by
        funext s k
        unfold yRu
        by_cases h : s = 0
        · rw [if_pos h]
        · rw [if_neg h]
      rw [e1] at this
      exact this
    · have hs : s < 1 := hs
      have : s = 0 := by omega
      subst this
      simp (disch := omega) only [yt_in, yt_ie, yt_ir, yt_il, yt_ri, yt_rl, yt_rn, yt_re, yt_li, yt_lr, yt_ln, yt_le]
      refine ⟨?_, ?_, ?_⟩ <;> rfl
    · simp (disch := omega) only [yt_in, yt_ie, yt_ir, yt_il, yt_ri, yt_rl, yt_rn, yt_re, yt_li, yt_lr, yt_ln, yt_le]
      exact h10
    · have hj : j < 0 := hj
      omega
    · simp (disch := omega) only [yt_in, yt_ie, yt_ir, yt_il, yt_ri, yt_rl, yt_rn, yt_re, yt_li, yt_lr, yt_ln, yt_le]
      exact h11
    · simp (disch := omega) only [yt_in, yt_ie, yt_ir, yt_il, yt_ri, yt_rl, yt_rn, yt_re, yt_li, yt_lr, yt_ln, yt_le]
end YFS
