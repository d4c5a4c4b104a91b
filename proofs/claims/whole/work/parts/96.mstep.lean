/-! explorer: the reference's small steps -/
section YMS
variable {F n m p q t V L T : Nat} {v : Nat → Nat}
def yMx (τ : zs_S) (tt q : Nat) (W : Nat × (Nat → Nat → Int32) × (Nat → Int32) × (Nat → Int32) × (Nat → Int32) × Nat × (Nat → Nat) × Bool) (C : Nat → Int32) (s t : Nat) : Prop := ymW τ tt W ∧ (∀ j, j < 34 → zs_i τ 64 j = yD tt C j) ∧ zs_r τ 1 2 = q ∧ zs_i τ 1 28 = nI s ∧ zs_i τ 1 29 = nI t
theorem yPm_F {tt S : Nat} {B Tt kd tg : Nat → Nat} {wy : Nat → Nat → Int32} {ex : Nat → List (Nat × Int32)} {τ τ' : zs_S} (hq : yQQ q) (hpp : yPp V L tt S B Tt kd tg wy ex) (hf : ∀ o k, q ≤ o → o < q + 27 → zs_i τ' o k = zs_i τ o k) (h : yPm τ q V L tt S B Tt kd tg wy ex) : yPm τ' q V L tt S B Tt kd tg wy ex := by
  have hq2 := yQQ_b hq
  have h4 := hpp.1
  obtain ⟨⟨a1, a2, a3, a4⟩, b, c⟩ := h
  refine ⟨⟨(hf _ _ (by omega) (by omega)).trans a1, (hf _ _ (by omega) (by omega)).trans a2, (hf _ _ (by omega) (by omega)).trans a3, (hf _ _ (by omega) (by omega)).trans a4⟩, fun t ht => (hf _ _ (by omega) (by omega)).trans (b t ht), fun t x h1 h2 h3 => ?_⟩
  obtain ⟨c1, c2, c3, c4, c5⟩ := c t x h1 h2 h3
  refine ⟨(hf _ _ (by omega) (by omega)).trans c1, fun hk => (hf _ _ (by omega) (by omega)).trans (c2 hk), fun hk => (hf _ _ (by omega) (by omega)).trans (c3 hk), fun w hw vl => (hf _ _ (by omega) (by omega)).trans (c4 w hw vl), fun hh => ?_⟩
  obtain ⟨e, e', d1, d2, d3⟩ := c5 hh
  exact ⟨e, e', (hf _ _ (by omega) (by omega)).trans d1, d2, yRw_F d3 (fun k _ _ => hf _ _ (by omega) (by omega))⟩
theorem yn_ea (t k : Nat) : (12 : Int32) + 5 * nI t + nI k = nI (12 + 5 * t + k) := by
  rw [show (5 : Int32) * nI t = nI (5 * t) from yn_mul 5 t, show (12 : Int32) = nI 12 from rfl, nI_add, nI_add]
theorem ym_th {tt k : Nat} {D : Nat → Int32} {x : Int32} {τ : zs_S} (h : yXt τ tt D) (hk : k < 34) (hn : ¬ (12 + tt ≤ k ∧ k < 16)) : yXt (zs_wi τ 65 (ypi k) x) tt (yU D k x) := by
  intro j hj
  rw [yD_u hk hj hn]
  by_cases e : j = ypi k
  · rw [if_pos e, e, yt_ie]
  · rw [if_neg e, yt_in _ _ (by omega)]
    exact h j hj
theorem ym_rdy {s t tt S : Nat} {B Tt kd tg : Nat → Nat} {wy : Nat → Nat → Int32} {ex : Nat → List (Nat × Int32)} {W : Nat × (Nat → Nat → Int32) × (Nat → Int32) × (Nat → Int32) × (Nat → Int32) × Nat × (Nat → Nat) × Bool} {C : Nat → Int32} {τ : zs_S} {t' : Nat} (hq : yQQ q) (hpp : yPp V L tt S B Tt kd tg wy ex) (hpm : yPm τ q V L tt S B Tt kd tg wy ex) (hnow : ∀ j, j < 34 → zs_i τ 64 j = yD tt C j) (hr2 : zs_r τ 1 2 = q) (ht : t < tt) (hv : yRV tt B kd C) : ∃ b : Int32, zf_M_isReady F (nI t) τ = some (b, τ) ∧ ((b = 1 ∧ C 32 = 0 ∧ yrd kd tg C t) ∨ (b = 0 ∧ ¬ (C 32 = 0 ∧ yrd kd tg C t))) := by
  have hq2 := yQQ_b hq
  have h4 : tt ≤ 4 := hpp.1.2.2.2.1
  obtain ⟨v1, v2, v3, v4, v5, v6⟩ := hv
  have c3 : zs_i τ 64 (12 + 5 * t + 3) = C (12 + t) := (hnow _ (by omega)).trans (yD_pl ht h4)
  have c4 : zs_i τ 64 (12 + 5 * t + 4) = C (16 + t) := (hnow _ (by omega)).trans (yD_md (by omega))
  have c32 : zs_i τ 64 32 = C 32 := (hnow _ (by omega)).trans (yD_e (Or.inl rfl))
  unfold zf_M_isReady zf_M_isReady_43 zf_M_each
  rw [yq_c, show (12 : Int32) + 5 * nI t + 3 = nI (12 + 5 * t + 3) from yn_ea t 3, yn_b (show 12 + 5 * t + 3 < 34 by omega) (by decide), yq_g, nI_clamp (by omega), c3, yq_v, yq_c, show (12 : Int32) + 5 * nI t + 4 = nI (12 + 5 * t + 4) from yn_ea t 4, yn_b (show 12 + 5 * t + 4 < 34 by omega) (by decide), yq_g, nI_clamp (by omega), c4, yq_v, show zq_b 32 34 = true from by decide, yq_g, show (32 : Int32).toNatClampNeg = 32 from by decide, c32]
  by_cases e0 : C 32 = 0
  · rw [if_neg (by rw [e0]; decide)]
    by_cases e1 : C (12 + t) = -1
    · rw [if_pos (by rw [e1]; decide)]
      exact ⟨0, rfl, Or.inr ⟨rfl, fun hh => hh.2.1 e1⟩⟩
    · obtain ⟨x, x1, x2, x3⟩ : ∃ y, B t ≤ y ∧ y < B (t + 1) ∧ C (12 + t) = nI y := by
        rcases v3 t ht with hh | hh
        · exact absurd hh e1
        · exact hh
      have hx50 : x < 50 := by
        have := hpp.2.1.2.2.2 (t + 1) (by omega)
        have := hpp.1
        omega
      have hpl : ypl C t = x := by
        unfold ypl
        rw [x3, nI_clamp (by omega)]
      obtain ⟨q1, q2, q3, q4, q5⟩ := hpp.2.2.2 t x ht x1 x2
      obtain ⟨r1, r2, r3, -⟩ := hpm.2.2 t x ht x1 x2
      have hL := hpp.1
      rw [if_neg (by rw [x3]; exact nI_pos (by omega))]
      by_cases e2 : C (16 + t) = 1
      · rw [if_pos e2]
        exact ⟨0, rfl, Or.inr ⟨rfl, fun hh => hh.2.2.1 e2⟩⟩
      · rw [if_neg e2]
        have c60 : (kd x = 3 ∨ kd x = 1) → ∃ b : Int32, zf_M_isReady_63 F (nI x) τ = some (b, τ) ∧ ((b = 1 ∧ C (tg x) = -1) ∨ (b = 0 ∧ ¬ C (tg x) = -1)) := by
          intro hk
          have htg := q3 (by omega)
          have hc : zs_i τ 64 (tg x) = C (tg x) := (hnow _ (by omega)).trans (yD_v (by omega))
          unfold zf_M_isReady_63 zf_M_isReady_83 zf_M_isReady_88
          rw [hr2, zq_qr (by omega), yv_k hq, yq_g, yv_r8 hq, zq_qr (by omega), yv_k11 hq, yq_g, yv_z11 hq, yn_b hx50 (by decide), yq_g, nI_clamp (by omega), r3 (by omega), show (8 : Int32) + nI (tg x - 8) = nI (8 + (tg x - 8)) from nI_add 8 _, show 8 + (tg x - 8) = tg x by omega, yn_b (show tg x < 34 by omega) (by decide), yq_g, nI_clamp (by omega), hc, yz_0, yz_1, yq_g, yq_g]
          have hv5 := v5 (tg x - 8) (by omega)
          rw [show 8 + (tg x - 8) = tg x by omega] at hv5
          rcases hv5 with e3 | ⟨o, o1, o2⟩
          · rw [if_neg (by rw [e3]; decide)]
            exact ⟨1, rfl, Or.inl ⟨rfl, e3⟩⟩
          · rw [if_pos (by rw [o2]; exact nI_pos' (by omega))]
            exact ⟨0, rfl, Or.inr ⟨rfl, by rw [o2]; exact yn_m1 (by omega)⟩⟩
        rw [x3]
        by_cases e3 : C (16 + t) = 2
        · rw [if_pos e3]
          have hk3 : kd x = 3 := by
            rcases v4 t ht with hh | ⟨-, y, y1, y2, y3, y4⟩
            · rw [hh] at e3
              exact absurd e3 (by decide)
            · have : x = y := (nI_eq (by omega) (by have := hpp.2.1.2.2.2 (t + 1) (by omega); omega)).mp (x3.symm.trans y3)
              subst this
              exact y4
          obtain ⟨b, b1, b2⟩ := c60 (Or.inl hk3)
          refine ⟨b, b1, ?_⟩
          rcases b2 with ⟨b2, b3⟩ | ⟨b2, b3⟩
          · exact Or.inl ⟨b2, e0, e1, e2, fun _ => by rw [hpl]; exact b3⟩
          · exact Or.inr ⟨b2, fun hh => b3 (by have := hh.2.2.2 (Or.inl e3); rw [hpl] at this; exact this)⟩
        · rw [if_neg e3, hr2, zq_qr (by omega), yv_k hq, yq_g, yv_r7 hq, zq_qr (by omega), yv_k10 hq, yq_g, yv_z10 hq, yn_b hx50 (by decide), yq_g, nI_clamp (by omega), r1]
          have k1e : (nI (kd x) = (1 : Int32)) = (kd x = 1) := yn_eq (a := kd x) (b := 1) (by omega) (by omega)
          by_cases e4 : kd x = 1
          · rw [if_pos (k1e.mpr e4)]
            obtain ⟨b, b1, b2⟩ := c60 (Or.inr e4)
            refine ⟨b, b1, ?_⟩
            rcases b2 with ⟨b2, b3⟩ | ⟨b2, b3⟩
            · exact Or.inl ⟨b2, e0, e1, e2, fun _ => by rw [hpl]; exact b3⟩
            · exact Or.inr ⟨b2, fun hh => b3 (by have := hh.2.2.2 (Or.inr (by rw [hpl]; exact e4)); rw [hpl] at this; exact this)⟩
          · rw [if_neg (fun e => e4 (k1e.mp e))]
            unfold zf_M_isReady_83 zf_M_isReady_88
            rw [yz_1, yq_g]
            refine ⟨1, rfl, Or.inl ⟨rfl, e0, e1, e2, fun hh => ?_⟩⟩
            rw [hpl] at hh
            rcases hh with hh | hh
            · exact absurd hh e3
            · exact absurd hh e4
  · have hgt : (0 : Int32) < C 32 := by
      rcases v6 with hh | hh | hh
      · exact absurd hh e0
      · rw [hh]; decide
      · rw [hh]; decide
    rw [if_pos hgt]
    exact ⟨0, rfl, Or.inr ⟨rfl, fun hh => e0 hh.1⟩⟩
theorem ym_wf {tt S j x : Nat} {B Tt kd tg : Nat → Nat} {wy : Nat → Nat → Int32} {ex : Nat → List (Nat × Int32)} {C : Nat → Int32} {τ : zs_S} (hq : yQQ q) (hpp : yPp V L tt S B Tt kd tg wy ex) (hpm : yPm τ q V L tt S B Tt kd tg wy ex) (hnow : ∀ j, j < 34 → zs_i τ 64 j = yD tt C j) (hr2 : zs_r τ 1 2 = q) (hj : j < tt) (hv : yRV tt B kd C) (htg : 8 ≤ tg x ∧ tg x < 12) : zf_M_waitsFor F (nI j) (nI (tg x - 8)) τ = some (if yw1 tg C (tg x) j = true then 1 else 0, τ) := by
  have hq2 := yQQ_b hq
  have h4 : tt ≤ 4 := hpp.1.2.2.2.1
  obtain ⟨v1, v2, v3, v4, v5, v6⟩ := hv
  have c3 : zs_i τ 64 (12 + 5 * j + 3) = C (12 + j) := (hnow _ (by omega)).trans (yD_pl hj h4)
  have c4 : zs_i τ 64 (12 + 5 * j + 4) = C (16 + j) := (hnow _ (by omega)).trans (yD_md (by omega))
  unfold zf_M_waitsFor zf_M_each zf_M_waitsFor_42 zf_M_waitsFor_43
  rw [yq_c, show (12 : Int32) + 5 * nI j + 4 = nI (12 + 5 * j + 4) from yn_ea j 4, yn_b (show 12 + 5 * j + 4 < 34 by omega) (by decide), yq_g, nI_clamp (by omega), c4]
  by_cases e1 : C (16 + j) = 1
  · rw [if_pos e1, hr2, zq_qr (by omega), yv_k hq, yq_g, yv_r8 hq, zq_qr (by omega), yq_c, show (12 : Int32) + 5 * nI j + 3 = nI (12 + 5 * j + 3) from yn_ea j 3, yn_b (show 12 + 5 * j + 3 < 34 by omega) (by decide), yq_g, nI_clamp (by omega), c3, yv_k11 hq, yq_g, yv_z11 hq]
    rcases v4 j hj with hh | ⟨-, y, y1, y2, y3, y4⟩
    · rw [hh] at e1
      exact absurd e1 (by decide)
    · have hy50 : y < 50 := by
        have := hpp.2.1.2.2.2 (j + 1) (by omega)
        have := hpp.1
        omega
      obtain ⟨-, -, r3, -⟩ := hpm.2.2 j y hj y1 y2
      obtain ⟨-, -, q3, -⟩ := hpp.2.2.2 j y hj y1 y2
      have htgy := q3 (by omega)
      have hL := hpp.1
      have hpl : ypl C j = y := by
        unfold ypl
        rw [y3, nI_clamp (by omega)]
      rw [y3, yn_b hy50 (by decide), yq_g, nI_clamp (by omega), r3 (by omega), yz_1, yz_0, yq_g, yq_g]
      by_cases e2 : tg y = tg x
      · rw [if_pos (show nI (tg y - 8) = nI (tg x - 8) by rw [e2]), if_pos (yw1_i.mpr ⟨e1, by rw [hpl]; exact e2⟩)]
      · rw [if_neg (fun e => e2 (by have := (nI_eq (by omega) (by omega)).mp e; omega)), if_neg (fun hh => e2 (by have := (yw1_i.mp hh).2; rw [hpl] at this; exact this))]
  · rw [if_neg e1, yz_0, yq_g, if_neg (fun hh => e1 (yw1_i.mp hh).1)]
/-- place, and reach -/
theorem ym_go {s t tt S x w : Nat} {B Tt kd tg : Nat → Nat} {wy : Nat → Nat → Int32} {ex : Nat → List (Nat × Int32)} {D : Nat → Int32} {τ : zs_S} (hq : yQQ q) (hpp : yPp V L tt S B Tt kd tg wy ex) (hpm : yPm τ q V L tt S B Tt kd tg wy ex) (hr2 : zs_r τ 1 2 = q) (hth : zs_i τ 1 29 = nI t) (ht : t < tt) (x1 : B t ≤ x) (x2 : x < B (t + 1)) (hw : w < 3) (hvl : yVl (1100 + kd x) w) (hX : yXt τ tt D) : ∃ τ', zf_M_goOn F (nI x) (nI w) τ = some τ' ∧ yXt τ' tt (yU D (12 + t) (wy x w)) ∧ (∀ o k, o ≠ 65 → zs_i τ' o k = zs_i τ o k) ∧ (∀ o k, zs_r τ' o k = zs_r τ o k) := by
  have hq2 := yQQ_b hq
  have h4 : tt ≤ 4 := hpp.1.2.2.2.1
  have hx50 : x < 50 := by
    have := hpp.2.1.2.2.2 (t + 1) (by omega)
    have := hpp.1
    omega
  obtain ⟨-, -, -, r4, -⟩ := hpm.2.2 t x ht x1 x2
  have hpi := (ypi_pl t (by omega)).1
  refine ⟨zs_wi τ 65 (12 + 5 * t + 3) (wy x w), ?_, by rw [← hpi]; exact ym_th hX (by omega) (by omega), fun o k ho => yt_in _ _ (by omega), fun o k => rfl⟩
  unfold zf_M_goOn zf_M_each
  rw [hth, yq_c, hr2, zq_qr (by omega), yv_k hq, yq_g, yv_r10 hq, zq_qr (by omega), yv_k13 hq, yq_g, yn_3, nI_add, yv_z13 hq, yn_b (show 3 * x + w < 150 by omega) (by decide), yq_g, show (12 : Int32) + 5 * nI t + 3 = nI (12 + 5 * t + 3) from yn_ea t 3, yn_b (show 12 + 5 * t + 3 < 34 by omega) (by decide), yq_g, nI_clamp (by omega), nI_clamp (by omega), r4 w hw hvl, yq_v]
theorem ym_rc {s t tt : Nat} {B kd : Nat → Nat} {W : Nat × (Nat → Nat → Int32) × (Nat → Int32) × (Nat → Int32) × (Nat → Int32) × Nat × (Nat → Nat) × Bool} {C X : Nat → Int32} {τ : zs_S} (h : yMx τ tt q W C s t) (hX : yXt τ tt X) (hW : yWV tt B kd W) (hXv : yRV tt B kd X) (hs : s < W.1) (hK : W.2.2.2.2.2.1 < 3200) (hF : 900 < F) : ∃ (r : Int32) (τ' : zs_S), zf_M_reach F τ = some (r, τ') ∧ yfG τ τ' ∧ ((r = 1 ∧ yMx τ' tt q (ykp s (nI t) W X) C s t ∧ (ykp s (nI t) W X).2.2.2.2.2.2.2 = W.2.2.2.2.2.2.2) ∨ (r = 0 ∧ (ykp s (nI t) W X).2.2.2.2.2.2.2 = true)) := by
  obtain ⟨h1, h2, h3, h4, h5⟩ := h
  obtain ⟨r, τ', e1, e2, hx⟩ := ym_keep (F := F) (x2 := nI t) h1 hX (fun t' g1 g2 => ⟨hXv.2.1 t' g1 g2, fun u hu => (hW.2.1 u hu).2.1 t' g1 g2⟩) hW.2.2 h4 h5 hs hK hF
  refine ⟨r, τ', e1, e2, ?_⟩
  rcases hx with ⟨g1, g2, g3⟩ | hx
  · exact Or.inl ⟨g1, ⟨g2, fun j hj => (e2.1 _ _ (by omega) (by omega) (by omega) (by omega)).trans (h2 j hj), (e2.2 _ _).trans h3, (e2.1 _ _ (by omega) (by omega) (by omega) (by omega)).trans h4, (e2.1 _ _ (by omega) (by omega) (by omega) (by omega)).trans h5⟩, g3⟩
  · exact Or.inr hx
end YMS
