/-! explorer: the class's step, all kinds -/
section YCU
variable {F n m p q t V L T : Nat} {v : Nat → Nat}
theorem yordk : ∀ k, k < 10 → zq_kd (1100 + k) = true ∧ zq_en (1100 + k) = true ∧ zd_ord (1100 + k) = nI k ∧ zd_mk.getD k 0 = (if k = 0 then 1 else if k = 1 then 2 else if k = 2 then 3 else if k = 3 then 4 else if k = 4 then 5 else if k = 5 then 6 else if k = 6 then 7 else if k = 9 then 8 else 0) := by decide +kernel
theorem yy_needs {k x : Nat} {σ : zs_S} (hp : yPP p) (hx : x < 50) (hk : k ≤ 9) (hr : zs_r σ (p + 5 + x) 0 = 1100 + k) : zf_Statement_needsOwner F (p + 5 + x) σ = some (if 2 ≤ k ∧ k ≤ 5 then 1 else 0, σ) := by
  unfold zf_Statement_needsOwner zf_Statement_needsOwner_40 zf_Statement_needsOwner_45
  rw [yp_sk hp hx, yq_g, hr, zq_qr (by omega), yn_12 (by omega), yq_g, yz_1, yz_0, yq_g, yq_g]
  by_cases h2 : k = 2
  · rw [if_pos (by omega), if_pos (by omega)]
  · rw [if_neg (by omega), zq_qr (by omega), yn_12 (by omega), yq_g]
    by_cases h3 : k = 3
    · rw [if_pos (by omega), if_pos (by omega)]
    · rw [if_neg (by omega), zq_qr (by omega), yn_12 (by omega), yq_g]
      by_cases h4 : k = 4
      · rw [if_pos (by omega), if_pos (by omega)]
      · rw [if_neg (by omega), zq_qr (by omega), yn_12 (by omega), yq_g]
        by_cases h5 : k = 5
        · rw [if_pos (by omega), if_pos (by omega)]
        · rw [if_neg (by omega), if_neg (by omega)]
theorem yb8_w {y : Int32} {a b : Nat} (h : y = -1 ∨ ∃ z, a ≤ z ∧ z < b ∧ y = nI z) (hb : b ≤ 50) : yb8 y := by
  rcases h with h | ⟨z, -, h1, h2⟩
  · rw [h]
    exact (yb8_n 1 (by decide)).2
  · rw [h2]
    exact (yb8_n z (by omega)).1
theorem yx_take {s t tt S : Nat} {B Tt kd tg : Nat → Nat} {wy : Nat → Nat → Int32} {ex : Nat → List (Nat × Int32)} {W : Nat × (Nat → Nat → Int32) × (Nat → Int32) × (Nat → Int32) × (Nat → Int32) × Nat × (Nat → Nat) × Bool} {σ : zs_S} (hp : yPP p) (hF : 1700 < F) (hpp : yPp V L tt S B Tt kd tg wy ex) (hpc : yPc σ p V L tt S B Tt kd tg wy ex) (h : ycW σ W) (h16 : zs_i σ 16 (s + 1) = nI W.2.2.2.2.2.1) (h138 : zs_r σ 138 1 = p) (hs : s < W.1) (ht : t < tt) (hv : yRV tt B kd (W.2.1 s)) (hrd : yrd kd tg (W.2.1 s) t) (hK : W.2.2.2.2.2.1 < 3200 ∧ (kd (ypl (W.2.1 s) t) = 4 → W.2.1 s (tg (ypl (W.2.1 s) t)) = nI t → W.2.2.2.2.2.1 + (ywf tg (W.2.1 s) (tg (ypl (W.2.1 s) t)) 0 tt).length + 1 ≤ 3200)) : ∃ σ', zf_Explorer_takeStep F (nI s) (nI t) σ = some σ' ∧ ycW σ' ((ysu tt kd tg wy ex (W.2.1 s) t).foldl (ykp s (nI t)) W) ∧ zs_i σ' 16 (s + 1) = nI ((ysu tt kd tg wy ex (W.2.1 s) t).foldl (ykp s (nI t)) W).2.2.2.2.2.1 ∧ yfF p s σ σ' := by
  have hp2 := yPP_b hp
  have ht4 : t < 4 := by have := hpp.1; omega
  have hv' := hv
  obtain ⟨v1, v2, v3, v4, v5, v6⟩ := hv
  obtain ⟨x, x1, x2, x3⟩ : ∃ y, B t ≤ y ∧ y < B (t + 1) ∧ W.2.1 s (12 + t) = nI y := by
    rcases v3 t ht with hh | hh
    · exact absurd hh hrd.1
    · exact hh
  have hBt := hpp.2.1.2.2.2 (t + 1) (by omega)
  have hS50 := hpp.1
  have hx50 : x < 50 := by omega
  obtain ⟨q1, q2, q3, q4, q5⟩ := hpp.2.2.2 t x ht x1 x2
  obtain ⟨r1, r2, r3, r4, r5⟩ := hpc.2.2 t x ht x1 x2
  have hT3 := hpp.2.2.1 t ht
  have hpl : ypl (W.2.1 s) t = x := by
    unfold ypl
    rw [x3, nI_clamp (by omega)]
  have htg : kd x ≤ 5 → tg x < 34 := by
    intro h5
    by_cases h0 : kd x = 0
    · have := q2 h0
      omega
    · have := q3 (by omega)
      omega
  have hK0 : W.2.2.2.2.2.1 < 3200 := hK.1
  have bt : yb8 (nI t) := (yb8_n t (by omega)).1
  have bm : yb8 (-1) := (yb8_n 1 (by decide)).2
  have b0 : yb8 0 := yb8_01.1
  have b1 : yb8 1 := yb8_01.2
  have b2 : yb8 2 := (yb8_n 2 (by decide)).1
  obtain ⟨σ1, f1, f2, f3⟩ := yx_copy (F := F) hp h h16 hs v1
  have hi1 : ∀ k, zs_i σ1 (p + 5 + x) k = zs_i σ (p + 5 + x) k := fun k => f3.1.1 _ _ (by omega) (by omega)
  have hr1 : ∀ o k, zs_r σ1 o k = zs_r σ o k := f3.1.2.1
  have hpc1 := yPc_F hp hpp f3.1 hpc
  have h1381 : zs_r σ1 138 1 = p := (hr1 _ _).trans h138
  have e0 : zf_Explorer_takeStep F (nI s) (nI t) σ = zq_c (zf_States_cell F (nI s) (nI (16 + t)) σ1) fun r8 σ7 => if r8 = 2 then (zq_d (zf_States_set F (nI (16 + t)) 0 σ7) fun σ20 => zq_g (zq_k 0 (p + 5 + x) 16) <| zq_d (zf_States_set F (zs_i σ20 (p + 5 + x) 2) (nI t) σ20) fun σ24 => zq_d (zf_Explorer_go F (nI s) (nI t) (zs_i σ24 (p + 5 + x) 7) σ24) fun σ27 => some σ27) else (zq_g (zq_k 0 (p + 5 + x) 16) <| zq_c (zf_Statement_needsOwner F (p + 5 + x) σ7) fun r11 σ10 => if r11 = 0 then zf_Explorer_takeStep_97 F (nI s) (nI t) (p + 5 + x) σ10 else zq_c (zf_States_cell F (nI s) (zs_i σ10 (p + 5 + x) 2) σ10) fun r15 σ14 => if r15 = nI t then zf_Explorer_takeStep_97 F (nI s) (nI t) (p + 5 + x) σ14 else zq_d (zf_Explorer_err F (nI s) (nI t) 2 σ14) fun σ17 => some σ17) := by
    unfold zf_Explorer_takeStep
    rw [yx_next hp h h138 hs ht4 hx50 x3, yq_c, f1, yq_s, show (16 : Int32) + nI t = nI (16 + t) from nI_add 16 t]
  rw [e0, yx_cell f2.1 hs (show 16 + t < 34 by omega), yq_c]
  unfold ysu
  rw [hpl] at hK ⊢
  by_cases m2 : W.2.1 s (16 + t) = 2
  · -- woken
    have hk3 : kd x = 3 := by
      rcases v4 t ht with hh | ⟨-, y, y1, y2, y3, y4⟩
      · rw [hh] at m2
        exact absurd m2 (by decide)
      · have : x = y := (nI_eq (by omega) (by omega)).mp (x3.symm.trans y3)
        subst this
        exact y4
    have hwy := q4 0 (by omega) (Or.inl ⟨rfl, by omega, by omega, by omega⟩)
    have hfo := r3 0 (by omega) (Or.inl ⟨rfl, by omega, by omega, by omega⟩)
    rw [if_pos m2, if_pos m2]
    obtain ⟨σ2, g1, g2, g3⟩ := yx_set (F := F) (k := 16 + t) hp f2 (by omega) b0
    obtain ⟨σ3, k1, k2, k3⟩ := yx_set (F := F) (k := tg x) hp g2 (htg (by omega)) bt
    obtain ⟨σ4, l1, l2, l3, l4⟩ := yx_go (F := F) (y := wy x 0) hp k2 ht4 (yb8_w hwy (by omega)) hs hK0 (by omega)
    have hg2 : zs_i σ2 (p + 5 + x) 2 = nI (tg x) := by rw [g3.1.1 _ _ (by omega) (by omega), hi1, r2 (by omega)]
    have hg7 : zs_i σ3 (p + 5 + x) 7 = wy x 0 := by rw [k3.1.1 _ _ (by omega) (by omega), g3.1.1 _ _ (by omega) (by omega), hi1]; exact hfo
    rw [g1, yq_s, yp_sk hp hx50, yq_g, hg2, k1, yq_s, hg7, l1, yq_s]
    exact ⟨σ4, rfl, l2, l3, yfF_t f3 (yfF_t g3 (yfF_t k3 l4))⟩
  · rw [if_neg m2, if_neg m2, yp_sk hp hx50, yq_g, yy_needs hp hx50 q1 ((hr1 _ _).trans r1), yq_c]
    have e97 : (¬ ((2 ≤ kd x ∧ kd x ≤ 5) ∧ ¬ W.2.1 s (tg x) = nI t)) → (if 2 ≤ kd x ∧ kd x ≤ 5 then (1 : Int32) else 0) = 0 ∨ W.2.1 s (tg x) = nI t := by
      intro hh
      by_cases hc : 2 ≤ kd x ∧ kd x ≤ 5
      · exact Or.inr (Classical.byContradiction (fun hn => hh ⟨hc, hn⟩))
      · exact Or.inl (if_neg hc)
    by_cases hno : (2 ≤ kd x ∧ kd x ≤ 5) ∧ ¬ W.2.1 s (tg x) = nI t
    · -- not the owner
      obtain ⟨σ2, g1, g2, g3, g4⟩ := yx_err (F := F) (x := 2) hp f2 ht4 b2 hs hK0 (by omega)
      rw [if_pos hno, if_pos hno.1, if_neg y01, hi1, r2 (by omega), yx_cell f2.1 hs (htg (by omega)), yq_c, if_neg hno.2, g1, yq_s]
      exact ⟨σ2, rfl, g2, g3, yfF_t f3 g4⟩
    · rw [if_neg hno]
      have e1 : (if (if 2 ≤ kd x ∧ kd x ≤ 5 then (1 : Int32) else 0) = 0 then zf_Explorer_takeStep_97 F (nI s) (nI t) (p + 5 + x) σ1 else zq_c (zf_States_cell F (nI s) (zs_i σ1 (p + 5 + x) 2) σ1) fun r15 σ14 => if r15 = nI t then zf_Explorer_takeStep_97 F (nI s) (nI t) (p + 5 + x) σ14 else zq_d (zf_Explorer_err F (nI s) (nI t) 2 σ14) fun σ17 => some σ17) = zf_Explorer_takeStep_97 F (nI s) (nI t) (p + 5 + x) σ1 := by
        by_cases hc : 2 ≤ kd x ∧ kd x ≤ 5
        · have ho : W.2.1 s (tg x) = nI t := Classical.byContradiction (fun hn => hno ⟨hc, hn⟩)
          rw [if_pos hc, if_neg y01, hi1, r2 (by omega), yx_cell f2.1 hs (htg (by omega)), yq_c, if_pos ho]
        · rw [if_neg hc, if_pos y00]
      rw [e1]
      unfold zf_Explorer_takeStep_97 zf_Explorer_takeStep_338 zf_Explorer_takeStep_335 zf_Enum_ordinal0
      obtain ⟨o1, o2, o3, o4⟩ := yordk (kd x) (by omega)
      rw [yp_sk hp hx50, yq_g, hr1, r1, zq_qr (by omega), o1, yq_g, o2, yq_g, o3, yq_c, yn_b (show kd x < 10 by omega) (by decide), yq_g, nI_clamp (by omega), yq_v]
      have hw0 : ¬ (kd x = 7 ∨ kd x = 8 ∨ kd x = 9) → (wy x 0 = -1 ∨ ∃ y, B t ≤ y ∧ y < B (t + 1) ∧ wy x 0 = nI y) ∧ zs_i σ (p + 5 + x) 7 = wy x 0 := fun hh => ⟨q4 0 (by omega) (Or.inl ⟨rfl, by omega, by omega, by omega⟩), r3 0 (by omega) (Or.inl ⟨rfl, by omega, by omega, by omega⟩)⟩
      have k0 : kd x = 0 ∨ kd x = 1 ∨ kd x = 2 ∨ kd x = 3 ∨ kd x = 4 ∨ kd x = 5 ∨ kd x = 6 ∨ kd x = 9 ∨ kd x = 7 ∨ kd x = 8 := by omega
      rcases k0 with e | e | e | e | e | e | e | e | e | e
      · -- assign
        obtain ⟨w1, w2⟩ := hw0 (by omega)
        obtain ⟨σ2, g1, g2, g3⟩ := yx_res (F := F) hp hF hpp hpc1 f2 h1381 hs ht x1 x2 (Or.inl e)
        have hvb : yb8 (yval (W.2.1 s) (ex x)) := yval_b v1 ⟨by omega, ht4, hT3⟩ (q5 (Or.inl e)).1
        obtain ⟨σ3, k1, k2, k3⟩ := yx_set (F := F) (k := tg x) hp g2 (htg (by omega)) hvb
        obtain ⟨σ4, l1, l2, l3, l4⟩ := yx_go (F := F) (y := wy x 0) hp k2 ht4 (yb8_w w1 (by omega)) hs hK0 (by omega)
        have hg7 : zs_i σ3 (p + 5 + x) 7 = wy x 0 := by rw [k3.1.1 _ _ (by omega) (by omega), g3.1.1 _ _ (by omega) (by omega), hi1]; exact w2
        rw [show zd_mk.getD (kd x) 0 = 1 from by rw [o4, e]; decide, if_pos (show (1 : Int32) = 1 from rfl), if_pos (show kd x = 0 from e), g1, yq_c, hi1, r2 (by omega), k1, yq_s, hg7, l1, yq_s]
        exact ⟨σ4, rfl, l2, l3, yfF_t f3 (yfF_t g3 (yfF_t k3 l4))⟩
      · -- take
        obtain ⟨w1, w2⟩ := hw0 (by omega)
        obtain ⟨σ3, k1, k2, k3⟩ := yx_set (F := F) (k := tg x) hp f2 (htg (by omega)) bt
        obtain ⟨σ4, l1, l2, l3, l4⟩ := yx_go (F := F) (y := wy x 0) hp k2 ht4 (yb8_w w1 (by omega)) hs hK0 (by omega)
        have hg7 : zs_i σ3 (p + 5 + x) 7 = wy x 0 := by rw [k3.1.1 _ _ (by omega) (by omega), hi1]; exact w2
        rw [show zd_mk.getD (kd x) 0 = 2 from by rw [o4, e]; decide, if_neg (show ¬ (2 : Int32) = 1 by decide), if_pos (show (2 : Int32) = 2 from rfl), if_neg (show ¬ kd x = 0 by omega), if_pos (show kd x = 1 from e), hi1, r2 (by omega), k1, yq_s, hg7, l1, yq_s]
        exact ⟨σ4, rfl, l2, l3, yfF_t f3 (yfF_t k3 l4)⟩
      · -- give
        obtain ⟨w1, w2⟩ := hw0 (by omega)
        obtain ⟨σ3, k1, k2, k3⟩ := yx_set (F := F) (k := tg x) hp f2 (htg (by omega)) bm
        obtain ⟨σ4, l1, l2, l3, l4⟩ := yx_go (F := F) (y := wy x 0) hp k2 ht4 (yb8_w w1 (by omega)) hs hK0 (by omega)
        have hg7 : zs_i σ3 (p + 5 + x) 7 = wy x 0 := by rw [k3.1.1 _ _ (by omega) (by omega), hi1]; exact w2
        rw [show zd_mk.getD (kd x) 0 = 3 from by rw [o4, e]; decide, if_neg (show ¬ (3 : Int32) = 1 by decide), if_neg (show ¬ (3 : Int32) = 2 by decide), if_pos (show (3 : Int32) = 3 from rfl), if_neg (show ¬ kd x = 0 by omega), if_neg (show ¬ kd x = 1 by omega), if_pos (show kd x = 2 from e), hi1, r2 (by omega), k1, yq_s, hg7, l1, yq_s]
        exact ⟨σ4, rfl, l2, l3, yfF_t f3 (yfF_t k3 l4)⟩
      · -- wait
        obtain ⟨σ3, k1, k2, k3⟩ := yx_set (F := F) (k := tg x) hp f2 (htg (by omega)) bm
        obtain ⟨σ4, l1, l2, l3⟩ := yx_set (F := F) (k := 16 + t) hp k2 (by omega) b1
        obtain ⟨σ5, m1, m2, m3, m4⟩ := yx_keep (p := p) (F := F) (x2 := nI t) l2 hs hK0 (by omega)
        rw [show zd_mk.getD (kd x) 0 = 4 from by rw [o4, e]; decide, if_neg (show ¬ (4 : Int32) = 1 by decide), if_neg (show ¬ (4 : Int32) = 2 by decide), if_neg (show ¬ (4 : Int32) = 3 by decide), if_pos (show (4 : Int32) = 4 from rfl), if_neg (show ¬ kd x = 0 by omega), if_neg (show ¬ kd x = 1 by omega), if_neg (show ¬ kd x = 2 by omega), if_pos (show kd x = 3 from e), hi1, r2 (by omega), k1, yq_s, show (16 : Int32) + nI t = nI (16 + t) from nI_add 16 t, l1, yq_s, m1, yq_s]
        exact ⟨σ5, rfl, m2, m3, yfF_t f3 (yfF_t k3 (yfF_t l3 m4))⟩
      · -- wake
        obtain ⟨w1, w2⟩ := hw0 (by omega)
        obtain ⟨σ', z1, z2, z3, z4⟩ := yx_wk (F := F) (s := s) (t := t) (x := x) (y := wy x 0) (C := W.2.1 s) hp hF hpp ht hx50 hv' (htg (by omega)) (yb8_w w1 (by omega)) tt 0 F W σ1 1 (by omega) (by omega) f2.1 f2.2.2 hpc1 h1381 hs rfl (by rw [hi1]; exact r2 (by omega)) (by rw [hi1]; exact w2) (hK.2 e (Classical.byContradiction (fun hn => hno ⟨by omega, hn⟩))) (Or.inr ⟨rfl, f2.2.1⟩)
        have z1' : zf_Explorer_wakeOne F (nI s) (nI t) (p + 5 + x) σ1 = some σ' := z1
        have hls : (if (1 : Int32) = 1 ∧ ywf tg (W.2.1 s) (tg x) 0 tt = [] then [yU (W.2.1 s) (12 + t) (wy x 0)] else ywk (W.2.1 s) t (wy x 0) (ywf tg (W.2.1 s) (tg x) 0 tt)) = (if ywf tg (W.2.1 s) (tg x) 0 tt = [] then [yU (W.2.1 s) (12 + t) (wy x 0)] else ywk (W.2.1 s) t (wy x 0) (ywf tg (W.2.1 s) (tg x) 0 tt)) := by
          by_cases hn : ywf tg (W.2.1 s) (tg x) 0 tt = []
          · rw [if_pos ⟨rfl, hn⟩, if_pos hn]
          · rw [if_neg (fun hh => hn hh.2), if_neg hn]
        rw [hls] at z2 z3
        rw [show zd_mk.getD (kd x) 0 = 5 from by rw [o4, e]; decide, if_neg (show ¬ (5 : Int32) = 1 by decide), if_neg (show ¬ (5 : Int32) = 2 by decide), if_neg (show ¬ (5 : Int32) = 3 by decide), if_neg (show ¬ (5 : Int32) = 4 by decide), if_pos (show (5 : Int32) = 5 from rfl), if_neg (show ¬ kd x = 0 by omega), if_neg (show ¬ kd x = 1 by omega), if_neg (show ¬ kd x = 2 by omega), if_neg (show ¬ kd x = 3 by omega), if_pos (show kd x = 4 from e), z1', yq_s]
        exact ⟨σ', rfl, z2, z3, yfF_t f3 z4⟩
      · -- wake all
        obtain ⟨w1, w2⟩ := hw0 (by omega)
        obtain ⟨σ', z1, z2, z3, z4⟩ := yx_wa (F := F) (s := s) (t := t) (x := x) (y := wy x 0) (C := W.2.1 s) (W := W) hp hF hpp ht hx50 hv' (htg (by omega)) (yb8_w w1 (by omega)) hs rfl hK0 tt 0 F σ1 (W.2.1 s) (by omega) (by omega) f2 hpc1 h1381 (by rw [hi1]; exact r2 (by omega)) (by rw [hi1]; exact w2)
        have z1' : zf_Explorer_wakeAll F (nI s) (nI t) (p + 5 + x) σ1 = some σ' := z1
        rw [show zd_mk.getD (kd x) 0 = 6 from by rw [o4, e]; decide, if_neg (show ¬ (6 : Int32) = 1 by decide), if_neg (show ¬ (6 : Int32) = 2 by decide), if_neg (show ¬ (6 : Int32) = 3 by decide), if_neg (show ¬ (6 : Int32) = 4 by decide), if_neg (show ¬ (6 : Int32) = 5 by decide), if_pos (show (6 : Int32) = 6 from rfl), if_neg (show ¬ kd x = 0 by omega), if_neg (show ¬ kd x = 1 by omega), if_neg (show ¬ kd x = 2 by omega), if_neg (show ¬ kd x = 3 by omega), if_neg (show ¬ kd x = 4 by omega), if_pos (show kd x = 5 from e), z1', yq_s]
        exact ⟨σ', rfl, z2, z3, yfF_t f3 z4⟩
      · -- assert
        obtain ⟨w1, w2⟩ := hw0 (by omega)
        obtain ⟨σ2, g1, g2, g3⟩ := yx_res (F := F) hp hF hpp hpc1 f2 h1381 hs ht x1 x2 (Or.inr ⟨by omega, by omega⟩)
        have hg7 : zs_i σ2 (p + 5 + x) 7 = wy x 0 := by rw [g3.1.1 _ _ (by omega) (by omega), hi1]; exact w2
        rw [show zd_mk.getD (kd x) 0 = 7 from by rw [o4, e]; decide, if_neg (show ¬ (7 : Int32) = 1 by decide), if_neg (show ¬ (7 : Int32) = 2 by decide), if_neg (show ¬ (7 : Int32) = 3 by decide), if_neg (show ¬ (7 : Int32) = 4 by decide), if_neg (show ¬ (7 : Int32) = 5 by decide), if_neg (show ¬ (7 : Int32) = 6 by decide), if_pos (show (7 : Int32) = 7 from rfl), if_neg (show ¬ kd x = 0 by omega), if_neg (show ¬ kd x = 1 by omega), if_neg (show ¬ kd x = 2 by omega), if_neg (show ¬ kd x = 3 by omega), if_neg (show ¬ kd x = 4 by omega), if_neg (show ¬ kd x = 5 by omega), if_pos (show kd x = 6 from e)]
        unfold zf_Explorer_assertThat zf_Explorer_assertThat_29
        rw [g1, yq_c, yp_sk hp hx50, yq_g, hg7]
        by_cases hz : yval (W.2.1 s) (ex x) = 0
        · obtain ⟨σ4, l1, l2, l3, l4⟩ := yx_err (F := F) (x := 1) hp g2 ht4 b1 hs hK0 (by omega)
          rw [if_pos hz, if_pos hz, l1, yq_s, yq_s]
          exact ⟨σ4, rfl, l2, l3, yfF_t f3 (yfF_t g3 l4)⟩
        · obtain ⟨σ4, l1, l2, l3, l4⟩ := yx_go (F := F) (y := wy x 0) hp g2 ht4 (yb8_w w1 (by omega)) hs hK0 (by omega)
          rw [if_neg hz, if_neg hz, l1, yq_s, yq_s]
          exact ⟨σ4, rfl, l2, l3, yfF_t f3 (yfF_t g3 l4)⟩
      · -- stop
        obtain ⟨σ4, l1, l2, l3, l4⟩ := yx_go (F := F) (y := -1) hp f2 ht4 bm hs hK0 (by omega)
        rw [show zd_mk.getD (kd x) 0 = 8 from by rw [o4, e]; decide, if_neg (show ¬ (8 : Int32) = 1 by decide), if_neg (show ¬ (8 : Int32) = 2 by decide), if_neg (show ¬ (8 : Int32) = 3 by decide), if_neg (show ¬ (8 : Int32) = 4 by decide), if_neg (show ¬ (8 : Int32) = 5 by decide), if_neg (show ¬ (8 : Int32) = 6 by decide), if_neg (show ¬ (8 : Int32) = 7 by decide), if_pos (show (8 : Int32) = 8 from rfl), if_neg (show ¬ kd x = 0 by omega), if_neg (show ¬ kd x = 1 by omega), if_neg (show ¬ kd x = 2 by omega), if_neg (show ¬ kd x = 3 by omega), if_neg (show ¬ kd x = 4 by omega), if_neg (show ¬ kd x = 5 by omega), if_neg (show ¬ kd x = 6 by omega), if_pos (show kd x = 9 from e), l1, yq_s]
        exact ⟨σ4, rfl, l2, l3, yfF_t f3 l4⟩
      · -- if
        have h78 : kd x = 7 ∨ kd x = 8 := by omega
        have hk2 : yVl (1100 + kd x) 1 ∧ yVl (1100 + kd x) 2 := ⟨Or.inr ⟨by omega, by omega⟩, Or.inr ⟨by omega, by omega⟩⟩
        obtain ⟨σ2, g1, g2, g3⟩ := yx_res (F := F) hp hF hpp hpc1 f2 h1381 hs ht x1 x2 (Or.inr ⟨by omega, by omega⟩)
        have hg5 : zs_i σ2 (p + 5 + x) 5 = wy x 1 := by rw [g3.1.1 _ _ (by omega) (by omega), hi1]; exact r3 1 (by omega) hk2.1
        have hg6 : zs_i σ2 (p + 5 + x) 6 = wy x 2 := by rw [g3.1.1 _ _ (by omega) (by omega), hi1]; exact r3 2 (by omega) hk2.2
        rw [show zd_mk.getD (kd x) 0 = 0 from by rw [o4, e]; decide, if_neg (show ¬ (0 : Int32) = 1 by decide), if_neg (show ¬ (0 : Int32) = 2 by decide), if_neg (show ¬ (0 : Int32) = 3 by decide), if_neg (show ¬ (0 : Int32) = 4 by decide), if_neg (show ¬ (0 : Int32) = 5 by decide), if_neg (show ¬ (0 : Int32) = 6 by decide), if_neg (show ¬ (0 : Int32) = 7 by decide), if_neg (show ¬ (0 : Int32) = 8 by decide), if_neg (show ¬ kd x = 0 by omega), if_neg (show ¬ kd x = 1 by omega), if_neg (show ¬ kd x = 2 by omega), if_neg (show ¬ kd x = 3 by omega), if_neg (show ¬ kd x = 4 by omega), if_neg (show ¬ kd x = 5 by omega), if_neg (show ¬ kd x = 6 by omega), if_neg (show ¬ kd x = 9 by omega), g1, yq_c, hg5, hg6]
        by_cases hz : yval (W.2.1 s) (ex x) = 0
        · obtain ⟨σ4, l1, l2, l3, l4⟩ := yx_go (F := F) (y := wy x 2) hp g2 ht4 (yb8_w (q4 2 (by omega) hk2.2) (by omega)) hs hK0 (by omega)
          rw [if_pos hz, if_pos hz, l1, yq_s]
          exact ⟨σ4, rfl, l2, l3, yfF_t f3 (yfF_t g3 l4)⟩
        · obtain ⟨σ4, l1, l2, l3, l4⟩ := yx_go (F := F) (y := wy x 1) hp g2 ht4 (yb8_w (q4 1 (by omega) hk2.1) (by omega)) hs hK0 (by omega)
          rw [if_neg hz, if_neg hz, l1, yq_s]
          exact ⟨σ4, rfl, l2, l3, yfF_t f3 (yfF_t g3 l4)⟩
      · -- while
        have h78 : kd x = 7 ∨ kd x = 8 := by omega
        have hk2 : yVl (1100 + kd x) 1 ∧ yVl (1100 + kd x) 2 := ⟨Or.inr ⟨by omega, by omega⟩, Or.inr ⟨by omega, by omega⟩⟩
        obtain ⟨σ2, g1, g2, g3⟩ := yx_res (F := F) hp hF hpp hpc1 f2 h1381 hs ht x1 x2 (Or.inr ⟨by omega, by omega⟩)
        have hg5 : zs_i σ2 (p + 5 + x) 5 = wy x 1 := by rw [g3.1.1 _ _ (by omega) (by omega), hi1]; exact r3 1 (by omega) hk2.1
        have hg6 : zs_i σ2 (p + 5 + x) 6 = wy x 2 := by rw [g3.1.1 _ _ (by omega) (by omega), hi1]; exact r3 2 (by omega) hk2.2
        rw [show zd_mk.getD (kd x) 0 = 0 from by rw [o4, e]; decide, if_neg (show ¬ (0 : Int32) = 1 by decide), if_neg (show ¬ (0 : Int32) = 2 by decide), if_neg (show ¬ (0 : Int32) = 3 by decide), if_neg (show ¬ (0 : Int32) = 4 by decide), if_neg (show ¬ (0 : Int32) = 5 by decide), if_neg (show ¬ (0 : Int32) = 6 by decide), if_neg (show ¬ (0 : Int32) = 7 by decide), if_neg (show ¬ (0 : Int32) = 8 by decide), if_neg (show ¬ kd x = 0 by omega), if_neg (show ¬ kd x = 1 by omega), if_neg (show ¬ kd x = 2 by omega), if_neg (show ¬ kd x = 3 by omega), if_neg (show ¬ kd x = 4 by omega), if_neg (show ¬ kd x = 5 by omega), if_neg (show ¬ kd x = 6 by omega), if_neg (show ¬ kd x = 9 by omega), g1, yq_c, hg5, hg6]
        by_cases hz : yval (W.2.1 s) (ex x) = 0
        · obtain ⟨σ4, l1, l2, l3, l4⟩ := yx_go (F := F) (y := wy x 2) hp g2 ht4 (yb8_w (q4 2 (by omega) hk2.2) (by omega)) hs hK0 (by omega)
          rw [if_pos hz, if_pos hz, l1, yq_s]
          exact ⟨σ4, rfl, l2, l3, yfF_t f3 (yfF_t g3 l4)⟩
        · obtain ⟨σ4, l1, l2, l3, l4⟩ := yx_go (F := F) (y := wy x 1) hp g2 ht4 (yb8_w (q4 1 (by omega) hk2.1) (by omega)) hs hK0 (by omega)
          rw [if_neg hz, if_neg hz, l1, yq_s]
          exact ⟨σ4, rfl, l2, l3, yfF_t f3 (yfF_t g3 l4)⟩
end YCU
