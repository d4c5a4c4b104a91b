/-! check: both sides alike -/
section YCK
variable {F n m p q t V L T : Nat} {v : Nat → Nat}
theorem yx_clear {σ : zs_S} (hF : 1700 < F) : ∃ σ', zf_States_clear F σ = some σ' ∧ zs_i σ' 10 9 = 0 ∧ zs_i σ' 10 10 = 0 ∧ zs_i σ' 10 11 = 0 ∧ (∀ b, b < 1024 → zs_i σ' 18 b = -2) ∧ (∀ o k, o ≠ 10 → o ≠ 18 → zs_i σ' o k = zs_i σ o k) ∧ (∀ o k, zs_r σ' o k = zs_r σ o k) ∧ (∀ o k, zs_l σ' o k = zs_l σ o k) := by
  have hk : zq_k 0 18 0 = true := by decide +kernel
  have hz : (zd_sh 0 18).2 = 1024 := by decide +kernel
  obtain ⟨σ', z1, z2, z3, z4, z5⟩ := yf_I0 (F := F) (x := -2) hk hz (by decide) 1024 0 F (zs_wi (zs_wi (zs_wi σ 10 9 0) 10 10 0) 10 11 0) (by omega) (by omega)
  have z1' : zf_Arrays_fillI0_5 F F 18 (-2) 0 (nI 1024) (zs_wi (zs_wi (zs_wi σ 10 9 0) 10 10 0) 10 11 0) = some σ' := z1
  refine ⟨σ', ?_, ?_, ?_, ?_, fun b hb => z2 b (by omega) hb, fun o k w1 w2 => ?_, z4, z5⟩
  · unfold zf_States_clear zf_Arrays_fillI0
    rw [yq_v, yq_v, yq_v, hk, yq_g, hz, yq_v, z1', yq_s]
  · rw [z3 _ _ (by omega)]
    simp (disch := omega) only [yt_in, yt_ie, yt_ir, yt_il, yt_ri, yt_rl, yt_rn, yt_re, yt_li, yt_lr, yt_ln, yt_le]
  · rw [z3 _ _ (by omega)]
    simp (disch := omega) only [yt_in, yt_ie, yt_ir, yt_il, yt_ri, yt_rl, yt_rn, yt_re, yt_li, yt_lr, yt_ln, yt_le]
  · rw [z3 _ _ (by omega), yt_ie]
  · rw [z3 _ _ (by omega)]
    simp (disch := omega) only [yt_in, yt_ie, yt_ir, yt_il, yt_ri, yt_rl, yt_rn, yt_re, yt_li, yt_lr, yt_ln, yt_le]
theorem yf0_F {tt : Nat} {a e a' e' : Nat → Int32} (ha : ∀ x, x < V → a x = a' x) (he : ∀ t, t < tt → e t = e' t) : yf0 a e V 4 tt = yf0 a' e' V 4 tt := by
  funext k
  unfold yf0
  by_cases c1 : k < V
  · rw [if_pos c1, if_pos c1]
    exact ha k c1
  · rw [if_neg c1, if_neg c1]
    by_cases c3 : 12 ≤ k ∧ k < 12 + tt
    · rw [if_pos c3, if_pos c3, he (k - 12) (by omega)]
    · rw [if_neg c3, if_neg c3]
def yEm (σ τ : zs_S) (p : Nat) : Prop := zs_i σ 10 9 = 0 ∧ (zs_i σ p 0 = 0 ∧ zs_i σ p 1 = 0 ∧ zs_i σ p 2 = 0 ∧ zs_i σ p 3 = 0) ∧ zs_i τ 1 23 = 0 ∧ zs_i τ 1 4 = 0
def yFx (σ τ : zs_S) (p q V L tt S : Nat) (B Tt kd tg : Nat → Nat) (wy : Nat → Nat → Int32) (ex : Nat → List (Nat × Int32)) (W : Nat × (Nat → Nat → Int32) × (Nat → Int32) × (Nat → Int32) × (Nat → Int32) × Nat × (Nat → Nat) × Bool) (fn : Nat → Nat) : Prop := yPp V L tt S B Tt kd tg wy ex ∧ yPc σ p V L tt S B Tt kd tg wy ex ∧ yPm τ q V L tt S B Tt kd tg wy ex ∧ yFin σ τ tt B kd tg W fn ∧ zs_i τ 1 4 = 1 ∧ zs_r σ 138 1 = p
def yFu (σ τ : zs_S) (p q : Nat) : Prop := ∃ V L tt S B Tt kd tg wy ex W fn, yFx σ τ p q V L tt S B Tt kd tg wy ex W fn
theorem yPc_G {tt S : Nat} {B Tt kd tg : Nat → Nat} {wy : Nat → Nat → Int32} {ex : Nat → List (Nat × Int32)} {σ σ' : zs_S} (hp : yPP p) (hpp : yPp V L tt S B Tt kd tg wy ex) (hi : ∀ o k, p ≤ o → o < p + 58 → zs_i σ' o k = zs_i σ o k) (hr : ∀ o k, p ≤ o → o < p + 58 → zs_r σ' o k = zs_r σ o k) (h : yPc σ p V L tt S B Tt kd tg wy ex) : yPc σ' p V L tt S B Tt kd tg wy ex := by
  have hp2 := yPP_b hp
  have h4 := hpp.1
  obtain ⟨⟨a1, a2, a3, a4⟩, b, c⟩ := h
  refine ⟨⟨(hi _ _ (by omega) (by omega)).trans a1, (hi _ _ (by omega) (by omega)).trans a2, (hi _ _ (by omega) (by omega)).trans a3, (hi _ _ (by omega) (by omega)).trans a4⟩, fun t ht => (hi _ _ (by omega) (by omega)).trans (b t ht), fun t x h1 h2 h3 => ?_⟩
  have hx : x < 50 := by
    have := hpp.2.1.2.2.2 (t + 1) (by omega)
    omega
  obtain ⟨c1, c2, c3, c4, c5⟩ := c t x h1 h2 h3
  have hwc : ∀ w, zs_i σ' (p + 5 + x) w = zs_i σ (p + 5 + x) w := fun w => hi _ _ (by omega) (by omega)
  refine ⟨(hr _ _ (by omega) (by omega)).trans c1, fun hk => (hwc 2).trans (c2 hk), fun w hw vl => (hwc _).trans (c3 w hw vl), fun hh => ?_, (hwc 8).trans c5⟩
  obtain ⟨c, c', d1, d2, d3, d4⟩ := c4 hh
  exact ⟨c, c', (hwc 3).trans d1, (hwc 4).trans d2, d3, yCl_F d4 (fun k _ _ => ⟨hr _ _ (by omega) (by omega), hi _ _ (by omega) (by omega)⟩)⟩
theorem yFu_F {σ τ σ' τ' : zs_S} (hp : yPP p) (hq : yQQ q) (h1 : ∀ o k, (10 ≤ o ∧ o ≤ 19) ∨ (p ≤ o ∧ o < p + 58) → zs_i σ' o k = zs_i σ o k) (h2 : ∀ o k, (p ≤ o ∧ o < p + 58) ∨ o = 138 → zs_r σ' o k = zs_r σ o k) (h3 : ∀ o k, (o = 1 ∧ (k = 4 ∨ k = 23 ∨ k = 24)) ∨ (58 ≤ o ∧ o ≤ 63) ∨ (q ≤ o ∧ o < q + 27) → zs_i τ' o k = zs_i τ o k) (h : yFu σ τ p q) : yFu σ' τ' p q := by
  obtain ⟨V, L, tt, S, B, Tt, kd, tg, wy, ex, W, fn, a1, a2, a3, ⟨b1, b2, b3, b4, b5, b6, b7⟩, a5, a6⟩ := h
  refine ⟨V, L, tt, S, B, Tt, kd, tg, wy, ex, W, fn, a1, yPc_G hp a1 (fun o k w1 w2 => h1 o k (Or.inr ⟨w1, w2⟩)) (fun o k w1 w2 => h2 o k (Or.inl ⟨w1, w2⟩)) a2, yPm_F hq a1 (fun o k w1 w2 => h3 o k (Or.inr (Or.inr ⟨w1, w2⟩))) a3, ⟨ycW_6 b1 (fun o k w1 w2 _ => h1 o k (Or.inl ⟨w1, w2⟩)), ymW_F (fun o k w => h3 o k (by omega)) b2, b3, b4, b5, b6, fun u hu => ?_, b7.2⟩, (h3 _ _ (by omega)).trans a5, (h2 _ _ (Or.inr rfl)).trans a6⟩
  obtain ⟨c1, c2, c3⟩ := b7.1 u hu
  exact ⟨(h1 _ _ (by omega)).trans c1, (h3 _ _ (by omega)).trans c2, c3⟩
def yfX (p : Nat) (σ σ' : zs_S) : Prop := (∀ o k, ¬ (10 ≤ o ∧ o ≤ 19) → o ≠ p + 58 → zs_i σ' o k = zs_i σ o k) ∧ (∀ o k, ¬ (o = 138 ∧ k = 1) → zs_r σ' o k = zs_r σ o k)
theorem yy_expl {tt S : Nat} {B Tt kd tg : Nat → Nat} {wy : Nat → Nat → Int32} {ex : Nat → List (Nat × Int32)} {σ τ : zs_S} (hp : yPP p) (hq : yQQ q) (hF : 7000 < F) (hpp : yPp V L tt S B Tt kd tg wy ex) (hpc : yPc σ p V L tt S B Tt kd tg wy ex) (hpm : yPm τ q V L tt S B Tt kd tg wy ex) (hpe : yPe σ τ p q V tt B) (hr2 : zs_r τ 1 2 = q) (h1 : zs_i τ 1 4 = 1) (h23 : zs_i τ 1 23 = nI 0) (h24 : zs_i τ 1 24 = nI 0) (h28 : zs_i τ 1 28 = -1) (h29 : zs_i τ 1 29 = -1) : ∃ (r r' : Int32) (σ' τ' : zs_S), zf_Explorer_explore F p σ = some (r, σ') ∧ (zq_d (zf_Arrays_fillI1 F 65 0 τ) fun σ15 => zf_M_check_65 F F 0 σ15) = some (r', τ') ∧ yfX p σ σ' ∧ yfI τ τ' ∧ ((r = 1 ∧ r' = -2 ∧ yFu σ' τ' p q) ∨ (r = 0 ∧ r' = -3 ∧ zs_i τ' 1 23 = 0 ∧ zs_i τ' 1 4 = 0)) := by
  have hp2 := yPP_b hp
  have hp3 : p = 20 ∨ p = 79 := hp
  have hq2 := yQQ_b hq
  have hq3 : q = 3 ∨ q = 30 := hq
  have h4 : tt ≤ 4 := hpp.1.2.2.2.1
  have hV : V ≤ 8 := hpp.1.1
  have hS := hpp.1
  -- the class up to its first state
  obtain ⟨σ3, a1, a2, a3, a4, a5, a6, a7, a8⟩ := yx_clear (F := F) (σ := zs_wr σ 138 1 p) (by omega)
  have f3 : ∀ o k, o ≠ 10 → o ≠ 18 → zs_i σ3 o k = zs_i σ o k := fun o k w1 w2 => (a6 o k w1 w2).trans rfl
  have r3 : ∀ o k, ¬ (o = 138 ∧ k = 1) → zs_r σ3 o k = zs_r σ o k := fun o k w => (a7 o k).trans (yt_rn _ _ (by omega))
  have r138 : zs_r σ3 138 1 = p := (a7 _ _).trans (yt_re _ _ _ _)
  obtain ⟨σ6, b1, b2, b3⟩ := yx_first (F := F) (V := V) (tt := tt) hp (by omega) hV h4 r138 a2 ((f3 _ _ (by omega) (by omega)).trans hpc.1.1) ((f3 _ _ (by omega) (by omega)).trans hpc.1.2.2.1) (fun x hx => by rw [f3 _ _ (by omega) (by omega), (hpe.1 x hx).1]; exact (hpe.1 x hx).2) (fun t ht => by
    rw [f3 _ _ (by omega) (by omega), (hpe.2 t ht).1]
    have := hpp.2.1.2.2.2 (t + 1) (by omega)
    exact yb8_w (hpe.2 t ht).2 (by omega))
  obtain ⟨X, hX⟩ : ∃ X, X = yU (yf0 (zs_i σ3 (p + 1)) (zs_i σ3 (p + 3)) V 4 tt) 33 (-1) := ⟨_, rfl⟩
  rw [← hX] at b3
  obtain ⟨σ9, c1, c2, c3, c4, c5⟩ := yx_kf (F := F) (X := X) (by omega) b3.1 ((b2.1 _ _ (by omega)).trans a3) ((b2.1 _ _ (by omega)).trans a4) (fun b hb => (b2.1 _ _ (by omega)).trans (a5 b hb)) b3.2
  have f9 : ∀ o k, ¬ (10 ≤ o ∧ o ≤ 19) → zs_i σ9 o k = zs_i σ o k := fun o k w => by rw [c3 o k w, b2.1 o k (by omega), f3 o k (by omega) (by omega)]
  have r9 : ∀ o k, ¬ (o = 138 ∧ k = 1) → zs_r σ9 o k = zs_r σ o k := fun o k w => by rw [c4, b2.2.1, r3 o k w]
  have r9p : zs_r σ9 138 1 = p := by rw [c4, b2.2.1, r138]
  have e1 : zf_Explorer_explore F p σ = zf_Explorer_explore_27 F F 0 σ9 := by
    unfold zf_Explorer_explore
    rw [yn_n (by omega), yq_g, yq_v, a1, yq_s, b1, yq_s, c1, yq_s]
  -- the reference up to its first state
  have hk : zq_k 1 65 0 = true := by decide +kernel
  have hz : (zd_sh 1 65).2 = 34 := by decide +kernel
  obtain ⟨τ1, g1, g2, g3, g4, g5⟩ := yf_I1 (F := F) (x := 0) hk hz (by decide) 34 0 F τ (by omega) (by omega)
  have g1' : zf_Arrays_fillI1 F 65 0 τ = some τ1 := by
    unfold zf_Arrays_fillI1
    rw [hk, yq_g, hz, yq_v]
    exact g1
  have fm : ∀ o k, o ≠ 65 → zs_i τ1 o k = zs_i τ o k := fun o k w => g3 o k (by omega)
  obtain ⟨τ2, k1, k2, k3, k4, k5⟩ := ym_first (F := F) (V := V) (tt := tt) hq (by omega) hV h4 ((g4 _ _).trans hr2) ((fm _ _ (by omega)).trans h23) ((fm _ _ (by omega)).trans h24) ((fm _ _ (by omega)).trans h28) ((fm _ _ (by omega)).trans h29) ((fm _ _ (by omega)).trans hpm.1.1) ((fm _ _ (by omega)).trans hpm.1.2.2.1) (fun k hk => g2 k (by omega) hk)
  have eX : yU (yf0 (zs_i τ1 (q + 8)) (zs_i τ1 (q + 9)) V 4 tt) 33 (-1) = X := by
    rw [hX, yf0_F (a := zs_i τ1 (q + 8)) (e := zs_i τ1 (q + 9)) (a' := zs_i σ3 (p + 1)) (e' := zs_i σ3 (p + 3)) (fun x hx => by rw [fm _ _ (by omega), f3 _ _ (by omega) (by omega), (hpe.1 x hx).1]) (fun t ht => by rw [fm _ _ (by omega), f3 _ _ (by omega) (by omega), (hpe.2 t ht).1])]
  rw [eX] at k2
  have hXv : yRV tt B kd X := by
    rw [hX]
    exact yf0_v hpp (fun x hx => by rw [f3 _ _ (by omega) (by omega), (hpe.1 x hx).1]; exact (hpe.1 x hx).2) (fun t ht => by rw [f3 _ _ (by omega) (by omega), (hpe.2 t ht).1]; exact (hpe.2 t ht).2)
  have fI : yfI τ τ2 := ⟨fun o k w1 w2 => by rw [k4 o k (by omega) (by omega), fm o k (by omega)], fun o k => by rw [k5, g4]⟩
  have hWV : yWV tt B kd (yW1 X) := ⟨by show 1 ≤ 800; omega, fun u _ => hXv, fun s s' w1 w2 _ => by have w1 : s < 1 := w1; have w2 : s' < 1 := w2; omega⟩
  have hpc9 := yPc_G hp hpp (fun o k w1 w2 => f9 o k (by omega)) (fun o k w1 w2 => r9 o k (by omega)) hpc
  have hpm2 := yPm_I hq hpp fI hpm
  obtain ⟨r, r', σ', τ', z1, z2, z3, z4, z5⟩ := yy_loop (F := F) hp hq hF hpp 801 0 F F (yW1 X) (fun _ => 0) σ9 τ2 (by omega) (by omega) (by omega) hpc9 hpm2 c2 k2 r9p ((k5 _ _).trans ((g4 _ _).trans hr2)) k3 (Nat.zero_le _) (Nat.le_refl _) hWV (Nat.le_refl _) rfl ⟨fun u hu => by omega, fun u hu => by omega⟩ (fun hh => by omega) (fun u hu => by omega) (fun u hu => by omega)
  refine ⟨r, r', σ', τ', e1.trans z1, ?_, ⟨fun o k w1 w2 => (z3.1 o k w1 w2).trans (f9 o k w1), fun o k w => (z3.2.1 o k).trans (r9 o k w)⟩, yfI_t fI z4, ?_⟩
  · rw [g1', yq_s]
    exact k1.trans z2
  · rcases z5 with ⟨y1, y2, y3, W', fn', y4⟩ | ⟨y1, y2, y3, -, y5⟩
    · refine Or.inl ⟨y1, y2, V, L, tt, S, B, Tt, kd, tg, wy, ex, W', fn', hpp, yPc_F hp hpp z3 hpc9, yPm_I hq hpp z4 hpm2, y4, ?_, (z3.2.1 _ _).trans r9p⟩
      rw [y3, k4 _ _ (by omega) (by omega), fm _ _ (by omega)]
      exact h1
    · exact Or.inr ⟨y1, y2, y3, y5⟩
end YCK
