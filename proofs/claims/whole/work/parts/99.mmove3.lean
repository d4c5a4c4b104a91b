/-! explorer: the reference's step, all kinds -/
section YMV
variable {F n m p q t V L T : Nat} {v : Nat → Nat}
theorem yn_s8 (b : Nat) : nI (b + 8) - 8 = nI b := by
  rw [← nI_add, show nI 8 = (8 : Int32) from rfl]
  exact Int32.add_sub_cancel _ _
theorem yn_25 : ∀ k, k < 10 → ((nI k < 2) ↔ k < 2) ∧ ((5 < nI k) ↔ 5 < k) := by decide
theorem ym_in {k : Nat} {τ : zs_S} (hk : k < 10) : zf_M_in F (nI k) 2 5 τ = some (if 2 ≤ k ∧ k ≤ 5 then 1 else 0, τ) := by
  obtain ⟨a, b⟩ := yn_25 k hk
  unfold zf_M_in zf_M_in_14 zf_M_in_15
  rw [yz_0, yz_1, yq_g, yq_g]
  by_cases h1 : k < 2
  · rw [if_pos (a.mpr h1), if_neg (by omega)]
  · rw [if_neg (fun e => h1 (a.mp e))]
    by_cases h2 : 5 < k
    · rw [if_pos (b.mpr h2), if_neg (by omega)]
    · rw [if_neg (fun e => h2 (b.mp e)), if_pos (by omega)]
theorem ym_218 {s t tt S x k : Nat} {B Tt kd tg : Nat → Nat} {wy : Nat → Nat → Int32} {ex : Nat → List (Nat × Int32)} {W : Nat × (Nat → Nat → Int32) × (Nat → Int32) × (Nat → Int32) × (Nat → Int32) × Nat × (Nat → Nat) × Bool} {C D : Nat → Int32} {τ : zs_S} (hq : yQQ q) (hpp : yPp V L tt S B Tt kd tg wy ex) (h : yMy τ q V L tt S B Tt kd tg wy ex W C s t D) (ht : t < tt) (x1 : B t ≤ x) (x2 : x < B (t + 1)) (hk : kd x = 0) (hk34 : k < 34) (hn : ¬ (12 + tt ≤ k ∧ k < 16)) (hW : yWV tt B kd W) (hD : yRV tt B kd (yU (yU D k (yval C (ex x))) (12 + t) (wy x 0))) (hs : s < W.1) (hK : W.2.2.2.2.2.1 < 3200) (hF : 7000 < F) : ∃ (r : Int32) (τ' : zs_S), zf_M_move_218 F (nI x) (nI (ypi k)) τ = some (r, τ') ∧ yRs tt q C s t W (ykp s (nI t) W (yU (yU D k (yval C (ex x))) (12 + t) (wy x 0))) r τ τ' := by
  have hq2 := yQQ_b hq
  have hx50 : x < 50 := by
    have := hpp.2.1.2.2.2 (t + 1) (by omega)
    have := hpp.1
    omega
  have hpi := (ypi_f k hk34).1
  obtain ⟨τ1, a1, a2, a3⟩ := ym_rk (F := F) hq hpp h ht x1 x2 (Or.inl hk) hF
  obtain ⟨b1, b2⟩ := yMy_w (k := k) (y := yval C (ex x)) hq hpp a2 hk34 hn
  obtain ⟨r, τ', e1, e2⟩ := ym_gr (F := F) (w := 0) hq hpp b1 ht x1 x2 (by omega) (Or.inl ⟨rfl, by omega, by omega, by omega⟩) hW hD hs hK (by omega)
  refine ⟨r, τ', ?_, yRs_6 (yf6_t a3 b2) e2⟩
  unfold zf_M_move_218
  rw [h.1.2.2.1, zq_qr (by omega), yv_k hq, yq_g, yv_r9 hq, zq_qr (by omega), yv_k12 hq, yq_g, yv_z12 hq, yn_b hx50 (by decide), yq_g, nI_clamp (by omega), h.1.2.2.2.2, a1, yq_c, yn_b hpi (by decide), yq_g, nI_clamp (by omega), yq_v]
  exact e1
theorem ym_move {s t tt S : Nat} {B Tt kd tg : Nat → Nat} {wy : Nat → Nat → Int32} {ex : Nat → List (Nat × Int32)} {W : Nat × (Nat → Nat → Int32) × (Nat → Int32) × (Nat → Int32) × (Nat → Int32) × Nat × (Nat → Nat) × Bool} {C : Nat → Int32} {τ : zs_S} (hq : yQQ q) (hF : 7000 < F) (hpp : yPp V L tt S B Tt kd tg wy ex) (hpm : yPm τ q V L tt S B Tt kd tg wy ex) (h : yMx τ tt q W C s t) (hW : yWV tt B kd W) (hs : s < W.1) (ht : t < tt) (hv : yRV tt B kd C) (hrd : yrd kd tg C t) (hK : W.2.2.2.2.2.1 < 3200 ∧ (kd (ypl C t) = 4 → C (tg (ypl C t)) = nI t → W.2.2.2.2.2.1 + (ywf tg C (tg (ypl C t)) 0 tt).length + 1 ≤ 3200)) : ∃ (r : Int32) (τ' : zs_S), zf_M_move F τ = some (r, τ') ∧ yRs tt q C s t W ((ysu tt kd tg wy ex C t).foldl (ykp s (nI t)) W) r τ τ' := by
  have hq2 := yQQ_b hq
  have h4 : tt ≤ 4 := hpp.1.2.2.2.1
  have ht4 : t < 4 := by omega
  have hsv := ysu_v hpp hv ht hrd
  have hv' := hv
  obtain ⟨v1, v2, v3, v4, v5, v6⟩ := hv
  obtain ⟨x, x1, x2, x3⟩ : ∃ y, B t ≤ y ∧ y < B (t + 1) ∧ C (12 + t) = nI y := by
    rcases v3 t ht with hh | hh
    · exact absurd hh hrd.1
    · exact hh
  have hBt := hpp.2.1.2.2.2 (t + 1) (by omega)
  have hS50 := hpp.1
  have hx50 : x < 50 := by omega
  obtain ⟨q1, q2, q3, q4, q5⟩ := hpp.2.2.2 t x ht x1 x2
  obtain ⟨r1, r2, r3, r4, r5⟩ := hpm.2.2 t x ht x1 x2
  have hpl : ypl C t = x := by
    unfold ypl
    rw [x3, nI_clamp (by omega)]
  rw [hpl] at hK
  have hK0 := hK.1
  obtain ⟨g1, g2, g3, g4, g5⟩ := id h
  have c3 : zs_i τ 64 (12 + 5 * t + 3) = nI x := ((g2 _ (by omega)).trans (yD_pl ht h4)).trans x3
  have c4 : zs_i τ 64 (12 + 5 * t + 4) = C (16 + t) := (g2 _ (by omega)).trans (yD_md (by omega))
  obtain ⟨a1, a2⟩ := yMy_c (D := C) hq hpp h hpm
  have a29 := a1.1.2.2.2.2
  have c4' : zs_i (zs_cp τ 64 65 0 0 34) 64 (12 + 5 * t + 4) = C (16 + t) := (a2.1 _ _ (by omega) (by omega)).trans c4
  have ow : (1 ≤ kd x ∧ kd x ≤ 5) → (8 : Int32) + zs_i τ (q + 11) x = nI (tg x) ∧ tg x < 34 ∧ ypi (tg x) = tg x ∧ 8 ≤ tg x ∧ tg x < 12 := by
    intro hh
    have := q3 hh
    rw [r3 hh, show (8 : Int32) + nI (tg x - 8) = nI (8 + (tg x - 8)) from nI_add 8 _, show 8 + (tg x - 8) = tg x by omega]
    exact ⟨rfl, by omega, if_pos (by omega), by omega, by omega⟩
  have hvl : ¬ (kd x = 7 ∨ kd x = 8 ∨ kd x = 9) → yVl (1100 + kd x) 0 := fun hh => Or.inl ⟨rfl, by omega, by omega, by omega⟩
  have lo1 : (8 : Int32) = nI 8 := rfl
  have e0 : zf_M_move F τ = if C (16 + t) = 2 then (zq_g (zq_b (8 + zs_i τ (q + 11) x) 34) <| zq_v (zs_wi (zs_cp τ 64 65 0 0 34) 65 ((8 + zs_i τ (q + 11) x).toNatClampNeg) (nI t)) fun σ32 => zq_c (zf_M_each F (zs_i σ32 1 29) σ32) fun r34 σ33 => zq_g (zq_b (r34 + 4) 34) <| zq_v (zs_wi σ33 65 ((r34 + 4).toNatClampNeg) 0) fun σ37 => zq_d (zf_M_goOn F (nI x) 0 σ37) fun σ38 => zq_c (zf_M_reach F σ38) fun r42 σ41 => zq_g (zq_z r42) <| some (r42, σ41)) else (if (if 2 ≤ kd x ∧ kd x ≤ 5 then (1 : Int32) else 0) = 0 then zf_M_move_138 F (nI x) (nI (kd x)) (zs_i τ (q + 11) x) (zs_cp τ 64 65 0 0 34) else zq_g (zq_b (8 + zs_i τ (q + 11) x) 34) <| if zs_i (zs_cp τ 64 65 0 0 34) 64 (8 + zs_i τ (q + 11) x).toNatClampNeg = nI t then zf_M_move_138 F (nI x) (nI (kd x)) (zs_i τ (q + 11) x) (zs_cp τ 64 65 0 0 34) else zq_c (zf_M_wrong F 2 (zs_cp τ 64 65 0 0 34)) fun r29 σ28 => zq_g (zq_z r29) <| some (r29, σ28)) := by
    have ee : zf_M_each F (nI t) τ = some (12 + 5 * nI t, τ) := rfl
    have ee2 : zf_M_each F (nI t) (zs_cp τ 64 65 0 0 34) = some (12 + 5 * nI t, zs_cp τ 64 65 0 0 34) := rfl
    unfold zf_M_move
    rw [g5, ee, yq_c, show (12 : Int32) + 5 * nI t + 3 = nI (12 + 5 * t + 3) from yn_ea t 3, yn_b (show 12 + 5 * t + 3 < 34 by omega) (by decide), yq_g, nI_clamp (by omega), c3, yq_v, g3, zq_qr (by omega), yv_k hq, yq_g, yv_r7 hq, zq_qr (by omega), yv_k10 hq, yq_g, yv_z10 hq, yn_b hx50 (by decide), yq_g, nI_clamp (by omega), r1, yq_v, zq_qr (by omega), yv_k hq, yq_g, yv_r8 hq, zq_qr (by omega), yv_k11 hq, yq_g, yv_z11 hq, yn_b hx50 (by decide), yq_g, yq_v, ym_cpg, yq_g, ym_cp0, ym_cp34, yq_v, a29, ee2, yq_c, show (12 : Int32) + 5 * nI t + 4 = nI (12 + 5 * t + 4) from yn_ea t 4, yn_b (show 12 + 5 * t + 4 < 34 by omega) (by decide), yq_g, nI_clamp (by omega), c4', ym_in (by omega), yq_c, a29]
  rw [e0]
  by_cases m2 : C (16 + t) = 2
  · have hk3 : kd x = 3 := by
      rcases v4 t ht with hh | ⟨-, y, y1, y2, y3, y4⟩
      · rw [hh] at m2
        exact absurd m2 (by decide)
      · have : x = y := (nI_eq (by omega) (by omega)).mp (x3.symm.trans y3)
        subst this
        exact y4
    obtain ⟨o1, o2, o3, o4, o5⟩ := ow (by omega)
    obtain ⟨b1, b2⟩ := yMy_w (k := tg x) (y := nI t) hq hpp a1 o2 (by omega)
    rw [o3] at b1 b2
    obtain ⟨d1, d2⟩ := yMy_w (k := 16 + t) (y := 0) hq hpp b1 (by omega) (by omega)
    rw [(ypi_pl t ht4).2, yU_c (show tg x ≠ 16 + t by omega)] at d1
    rw [(ypi_pl t ht4).2] at d2
    have esu : ysu tt kd tg wy ex C t = [yU (yU (yU C (16 + t) 0) (tg x) (nI t)) (12 + t) (wy x 0)] := by
      unfold ysu
      rw [hpl, if_pos m2]
    have hX := hsv _ (by rw [esu]; exact List.mem_singleton.mpr rfl)
    obtain ⟨r, τ', e1, e2⟩ := ym_gr (F := F) (w := 0) hq hpp d1 ht x1 x2 (by omega) (hvl (by omega)) hW hX hs hK0 (by omega)
    have ee3 : zf_M_each F (nI t) (zs_wi (zs_cp τ 64 65 0 0 34) 65 (tg x) (nI t)) = some (12 + 5 * nI t, zs_wi (zs_cp τ 64 65 0 0 34) 65 (tg x) (nI t)) := rfl
    rw [esu, if_pos m2, o1, yn_b o2 (by decide), yq_g, nI_clamp (by omega), yq_v, b1.1.2.2.2.2, ee3, yq_c, show (12 : Int32) + 5 * nI t + 4 = nI (12 + 5 * t + 4) from yn_ea t 4, yn_b (show 12 + 5 * t + 4 < 34 by omega) (by decide), yq_g, nI_clamp (by omega), yq_v]
    exact ⟨r, τ', e1, yRs_6 (yf6_t a2 (yf6_t b2 d2)) e2⟩
  · rw [if_neg m2]
    have m0 : C (16 + t) = 0 := by
      rcases v4 t ht with hh | ⟨hh | hh, -⟩
      · exact hh
      · exact absurd hh hrd.2.1
      · exact absurd hh m2
    by_cases hno : (2 ≤ kd x ∧ kd x ≤ 5) ∧ ¬ C (tg x) = nI t
    · have esu : ysu tt kd tg wy ex C t = [yU (yU C 32 2) 33 (nI t)] := by
        unfold ysu
        rw [hpl, if_neg m2, if_pos hno]
      have hX := hsv _ (by rw [esu]; exact List.mem_singleton.mpr rfl)
      obtain ⟨o1, o2, o3, o4, o5⟩ := ow (by omega)
      obtain ⟨r, τ', e1, e2⟩ := ym_wrong (F := F) (e := 2) hq hpp a1 hW hX hs hK0 (by omega)
      have e1' : zf_M_wrong F 2 (zs_cp τ 64 65 0 0 34) = some (r, τ') := e1
      have hc : zs_i (zs_cp τ 64 65 0 0 34) 64 (tg x) = C (tg x) := ((a2.1 _ _ (by omega) (by omega)).trans (g2 _ o2)).trans (yD_v o5)
      rw [esu, if_pos hno.1, if_neg y01, o1, yn_b o2 (by decide), yq_g, nI_clamp (by omega), hc, if_neg hno.2, e1', yq_c, e2.1, yq_g]
      exact ⟨r, τ', rfl, yRs_6 a2 e2⟩
    · have e138 : (if (if 2 ≤ kd x ∧ kd x ≤ 5 then (1 : Int32) else 0) = 0 then zf_M_move_138 F (nI x) (nI (kd x)) (zs_i τ (q + 11) x) (zs_cp τ 64 65 0 0 34) else zq_g (zq_b (8 + zs_i τ (q + 11) x) 34) <| if zs_i (zs_cp τ 64 65 0 0 34) 64 (8 + zs_i τ (q + 11) x).toNatClampNeg = nI t then zf_M_move_138 F (nI x) (nI (kd x)) (zs_i τ (q + 11) x) (zs_cp τ 64 65 0 0 34) else zq_c (zf_M_wrong F 2 (zs_cp τ 64 65 0 0 34)) fun r29 σ28 => zq_g (zq_z r29) <| some (r29, σ28)) = zf_M_move_138 F (nI x) (nI (kd x)) (zs_i τ (q + 11) x) (zs_cp τ 64 65 0 0 34) := by
        by_cases hc : 2 ≤ kd x ∧ kd x ≤ 5
        · have ho : C (tg x) = nI t := Classical.byContradiction (fun hn => hno ⟨hc, hn⟩)
          obtain ⟨o1, o2, o3, o4, o5⟩ := ow (by omega)
          have hc2 : zs_i (zs_cp τ 64 65 0 0 34) 64 (tg x) = C (tg x) := ((a2.1 _ _ (by omega) (by omega)).trans (g2 _ o2)).trans (yD_v o5)
          rw [if_pos hc, if_neg y01, o1, yn_b o2 (by decide), yq_g, nI_clamp (by omega), hc2, if_pos ho]
        · rw [if_neg hc, if_pos y00]
      rw [e138]
      have q12 : zs_i (zs_cp τ 64 65 0 0 34) (q + 12) x = zs_i τ (q + 12) x := a2.1 _ _ (by omega) (by omega)
      have aq := a1.1.2.2.1
      have k0 : kd x = 0 ∨ kd x = 1 ∨ kd x = 2 ∨ kd x = 3 ∨ kd x = 4 ∨ kd x = 5 ∨ kd x = 6 ∨ kd x = 9 ∨ kd x = 7 ∨ kd x = 8 := by omega
      unfold zf_M_move_138
      rcases k0 with e | e | e | e | e | e | e | e | e | e
      · -- assign
        have esu : ysu tt kd tg wy ex C t = [yU (yU C (tg x) (yval C (ex x))) (12 + t) (wy x 0)] := by
          unfold ysu
          rw [hpl, if_neg m2, if_neg hno, if_pos (show kd x = 0 from e)]
        have hX := hsv _ (by rw [esu]; exact List.mem_singleton.mpr rfl)
        have htg := q2 e
        have h3t := hpp.2.2.1 t ht
        have hV8 := hpp.1.1
        obtain ⟨r, τ', e1, e2⟩ := ym_218 (F := F) (k := tg x) hq hpp a1 ht x1 x2 e (by omega) (by omega) hW hX hs hK0 hF
        rw [esu, show nI (kd x) = (0 : Int32) from by rw [e]; rfl, if_pos (show (0 : Int32) = 0 from rfl), r2 e]
        by_cases h8 : tg x < 8
        · rw [if_pos h8, if_neg (show ¬ (8 : Int32) ≤ nI (tg x) from nI_ge (b := 8) h8 (by decide))]
          rw [show ypi (tg x) = tg x from if_pos (by omega)] at e1
          exact ⟨r, τ', e1, yRs_6 a2 e2⟩
        · obtain ⟨y, y1, y2⟩ : ∃ y, y < 3 ∧ tg x = 20 + 3 * t + y := ⟨tg x - (20 + 3 * t), by omega, by omega⟩
          rw [y2, ypi_lo t ht4 y y1] at e1
          unfold zf_M_each
          rw [if_neg h8, if_pos (show (8 : Int32) ≤ nI (8 + (tg x - (20 + 3 * t))) from nI_le (a := 8) (by omega) (by omega)), a29, yq_c, yn_ea, show 12 + 5 * t + (8 + (tg x - (20 + 3 * t))) = 12 + 5 * t + y + 8 by omega, yn_s8]
          exact ⟨r, τ', e1, yRs_6 a2 e2⟩
      · -- take
        have esu : ysu tt kd tg wy ex C t = [yU (yU C (tg x) (nI t)) (12 + t) (wy x 0)] := by
          unfold ysu
          rw [hpl, if_neg m2, if_neg hno, if_neg (show ¬ kd x = 0 by omega), if_pos (show kd x = 1 from e)]
        have hX := hsv _ (by rw [esu]; exact List.mem_singleton.mpr rfl)
        obtain ⟨o1, o2, o3, o4, o5⟩ := ow (by omega)
        obtain ⟨b1, b2⟩ := yMy_w (k := tg x) (y := (nI t)) hq hpp a1 o2 (by omega)
        rw [o3] at b1 b2
        obtain ⟨r, τ', e1, e2⟩ := ym_gr (F := F) (w := 0) hq hpp b1 ht x1 x2 (by omega) (hvl (by omega)) hW hX hs hK0 (by omega)
        rw [esu, show nI (kd x) = (1 : Int32) from by rw [e]; rfl, if_neg (show ¬ (1 : Int32) = 0 by decide), if_pos (show (1 : Int32) = 1 from rfl), o1, yn_b o2 (by decide), yq_g, nI_clamp (by omega), a29, yq_v]
        exact ⟨r, τ', e1, yRs_6 (yf6_t a2 b2) e2⟩
      · -- give
        have esu : ysu tt kd tg wy ex C t = [yU (yU C (tg x) (-1)) (12 + t) (wy x 0)] := by
          unfold ysu
          rw [hpl, if_neg m2, if_neg hno, if_neg (show ¬ kd x = 0 by omega), if_neg (show ¬ kd x = 1 by omega), if_pos (show kd x = 2 from e)]
        have hX := hsv _ (by rw [esu]; exact List.mem_singleton.mpr rfl)
        obtain ⟨o1, o2, o3, o4, o5⟩ := ow (by omega)
        obtain ⟨b1, b2⟩ := yMy_w (k := tg x) (y := (-1)) hq hpp a1 o2 (by omega)
        rw [o3] at b1 b2
        obtain ⟨r, τ', e1, e2⟩ := ym_gr (F := F) (w := 0) hq hpp b1 ht x1 x2 (by omega) (hvl (by omega)) hW hX hs hK0 (by omega)
        rw [esu, show nI (kd x) = (2 : Int32) from by rw [e]; rfl, if_neg (show ¬ (2 : Int32) = 0 by decide), if_neg (show ¬ (2 : Int32) = 1 by decide), if_pos (show (2 : Int32) = 2 from rfl), o1, yn_b o2 (by decide), yq_g, nI_clamp (by omega), yq_v]
        exact ⟨r, τ', e1, yRs_6 (yf6_t a2 b2) e2⟩
      · -- wait
        have esu : ysu tt kd tg wy ex C t = [yU (yU C (tg x) (-1)) (16 + t) 1] := by
          unfold ysu
          rw [hpl, if_neg m2, if_neg hno, if_neg (show ¬ kd x = 0 by omega), if_neg (show ¬ kd x = 1 by omega), if_neg (show ¬ kd x = 2 by omega), if_pos (show kd x = 3 from e)]
        have hX := hsv _ (by rw [esu]; exact List.mem_singleton.mpr rfl)
        obtain ⟨o1, o2, o3, o4, o5⟩ := ow (by omega)
        obtain ⟨b1, b2⟩ := yMy_w (k := tg x) (y := -1) hq hpp a1 o2 (by omega)
        rw [o3] at b1 b2
        obtain ⟨d1, d2⟩ := yMy_w (k := 16 + t) (y := 1) hq hpp b1 (by omega) (by omega)
        rw [(ypi_pl t ht4).2] at d1 d2
        obtain ⟨r, τ', e1, e2⟩ := ym_fin (F := F) d1 hW hX hs hK0 (by omega)
        unfold zf_M_each
        rw [esu, show nI (kd x) = (3 : Int32) from by rw [e]; rfl, if_neg (show ¬ (3 : Int32) = 0 by decide), if_neg (show ¬ (3 : Int32) = 1 by decide), if_neg (show ¬ (3 : Int32) = 2 by decide), if_pos (show (3 : Int32) = 3 from rfl), o1, yn_b o2 (by decide), yq_g, nI_clamp (by omega), yq_v, b1.1.2.2.2.2, yq_c, show (12 : Int32) + 5 * nI t + 4 = nI (12 + 5 * t + 4) from yn_ea t 4, yn_b (show 12 + 5 * t + 4 < 34 by omega) (by decide), yq_g, nI_clamp (by omega), yq_v, e1, yq_c, e2.1, yq_g]
        exact ⟨r, τ', rfl, yRs_6 (yf6_t a2 (yf6_t b2 d2)) e2⟩
      · -- wake
        have esu : ysu tt kd tg wy ex C t = (if ywf tg C (tg x) 0 tt = [] then [yU C (12 + t) (wy x 0)] else ywk C t (wy x 0) (ywf tg C (tg x) 0 tt)) := by
          unfold ysu
          rw [hpl, if_neg m2, if_neg hno, if_neg (show ¬ kd x = 0 by omega), if_neg (show ¬ kd x = 1 by omega), if_neg (show ¬ kd x = 2 by omega), if_neg (show ¬ kd x = 3 by omega), if_pos (show kd x = 4 from e)]
        obtain ⟨o1, o2, o3, o4, o5⟩ := ow (by omega)
        obtain ⟨r, τ', e1, e2⟩ := ym_wk (F := F) (s := s) (t := t) (x := x) hq hF hpp ht x1 x2 hv' ⟨o4, o5⟩ e m0 tt 0 F W (zs_cp τ 64 65 0 0 34) 0 (by omega) (by omega) a1.1 a1.2.1 hW hs (hK.2 e (Classical.byContradiction (fun hn => hno ⟨by omega, hn⟩))) (Or.inr ⟨rfl, a1.2.2⟩)
        have hls : (if (0 : Int32) = 0 ∧ ywf tg C (tg x) 0 tt = [] then [yU C (12 + t) (wy x 0)] else ywk C t (wy x 0) (ywf tg C (tg x) 0 tt)) = (if ywf tg C (tg x) 0 tt = [] then [yU C (12 + t) (wy x 0)] else ywk C t (wy x 0) (ywf tg C (tg x) 0 tt)) := by
          by_cases hn : ywf tg C (tg x) 0 tt = []
          · rw [if_pos ⟨rfl, hn⟩, if_pos hn]
          · rw [if_neg (fun hh => hn hh.2), if_neg hn]
        rw [hls] at e2
        have e1' : zf_M_wake F (nI x) (nI (tg x - 8)) (zs_cp τ 64 65 0 0 34) = some (r, τ') := e1
        rw [esu, show nI (kd x) = (4 : Int32) from by rw [e]; rfl, if_neg (show ¬ (4 : Int32) = 0 by decide), if_neg (show ¬ (4 : Int32) = 1 by decide), if_neg (show ¬ (4 : Int32) = 2 by decide), if_neg (show ¬ (4 : Int32) = 3 by decide), if_pos (show (4 : Int32) = 4 from rfl), r3 (by omega), e1', yq_c, e2.1, yq_g]
        exact ⟨r, τ', rfl, yRs_6 a2 e2⟩
      · -- wake all
        have esu : ysu tt kd tg wy ex C t = [yU (ywa tg C (tg x) C 0 tt) (12 + t) (wy x 0)] := by
          unfold ysu
          rw [hpl, if_neg m2, if_neg hno, if_neg (show ¬ kd x = 0 by omega), if_neg (show ¬ kd x = 1 by omega), if_neg (show ¬ kd x = 2 by omega), if_neg (show ¬ kd x = 3 by omega), if_neg (show ¬ kd x = 4 by omega), if_pos (show kd x = 5 from e)]
        have hX := hsv _ (by rw [esu]; exact List.mem_singleton.mpr rfl)
        obtain ⟨o1, o2, o3, o4, o5⟩ := ow (by omega)
        obtain ⟨r, τ', e1, e2⟩ := ym_wa (F := F) (s := s) (t := t) (x := x) (W := W) hq hF hpp ht x1 x2 hv' ⟨o4, o5⟩ e hW hs hK0 tt 0 F (zs_cp τ 64 65 0 0 34) C (by omega) (by omega) a1 hX
        rw [esu, show nI (kd x) = (5 : Int32) from by rw [e]; rfl, if_neg (show ¬ (5 : Int32) = 0 by decide), if_neg (show ¬ (5 : Int32) = 1 by decide), if_neg (show ¬ (5 : Int32) = 2 by decide), if_neg (show ¬ (5 : Int32) = 3 by decide), if_neg (show ¬ (5 : Int32) = 4 by decide), if_pos (show (5 : Int32) = 5 from rfl), r3 (by omega)]
        exact ⟨r, τ', e1, yRs_6 a2 e2⟩
      · -- assert
        obtain ⟨τ1, f1, f2, f3⟩ := ym_rk (F := F) hq hpp a1 ht x1 x2 (Or.inr ⟨by omega, by omega⟩) hF
        by_cases hz : yval C (ex x) = 0
        · have esu : ysu tt kd tg wy ex C t = [yU (yU C 32 1) 33 (nI t)] := by
            unfold ysu
            rw [hpl, if_neg m2, if_neg hno, if_neg (show ¬ kd x = 0 by omega), if_neg (show ¬ kd x = 1 by omega), if_neg (show ¬ kd x = 2 by omega), if_neg (show ¬ kd x = 3 by omega), if_neg (show ¬ kd x = 4 by omega), if_neg (show ¬ kd x = 5 by omega), if_pos (show kd x = 6 from e), if_pos hz]
          have hX := hsv _ (by rw [esu]; exact List.mem_singleton.mpr rfl)
          obtain ⟨r, τ', e1, e2⟩ := ym_wrong (F := F) (e := 1) hq hpp f2 hW hX hs hK0 (by omega)
          have e1' : zf_M_wrong F 1 τ1 = some (r, τ') := e1
          rw [esu, show nI (kd x) = (6 : Int32) from by rw [e]; rfl, if_neg (show ¬ (6 : Int32) = 0 by decide), if_neg (show ¬ (6 : Int32) = 1 by decide), if_neg (show ¬ (6 : Int32) = 2 by decide), if_neg (show ¬ (6 : Int32) = 3 by decide), if_neg (show ¬ (6 : Int32) = 4 by decide), if_neg (show ¬ (6 : Int32) = 5 by decide), if_pos (show (6 : Int32) = 6 from rfl), aq, zq_qr (by omega), yv_k hq, yq_g, yv_r9 hq, zq_qr (by omega), yv_k12 hq, yq_g, yv_z12 hq, yn_b hx50 (by decide), yq_g, nI_clamp (by omega), a29, f1, yq_c, if_pos hz, e1', yq_c, e2.1, yq_g]
          exact ⟨r, τ', rfl, yRs_6 (yf6_t a2 f3) e2⟩
        · have esu : ysu tt kd tg wy ex C t = [yU C (12 + t) (wy x 0)] := by
            unfold ysu
            rw [hpl, if_neg m2, if_neg hno, if_neg (show ¬ kd x = 0 by omega), if_neg (show ¬ kd x = 1 by omega), if_neg (show ¬ kd x = 2 by omega), if_neg (show ¬ kd x = 3 by omega), if_neg (show ¬ kd x = 4 by omega), if_neg (show ¬ kd x = 5 by omega), if_pos (show kd x = 6 from e), if_neg hz]
          have hX := hsv _ (by rw [esu]; exact List.mem_singleton.mpr rfl)
          obtain ⟨r, τ', e1, e2⟩ := ym_gr (F := F) (w := 0) hq hpp f2 ht x1 x2 (by omega) (hvl (by omega)) hW hX hs hK0 (by omega)
          rw [esu, show nI (kd x) = (6 : Int32) from by rw [e]; rfl, if_neg (show ¬ (6 : Int32) = 0 by decide), if_neg (show ¬ (6 : Int32) = 1 by decide), if_neg (show ¬ (6 : Int32) = 2 by decide), if_neg (show ¬ (6 : Int32) = 3 by decide), if_neg (show ¬ (6 : Int32) = 4 by decide), if_neg (show ¬ (6 : Int32) = 5 by decide), if_pos (show (6 : Int32) = 6 from rfl), aq, zq_qr (by omega), yv_k hq, yq_g, yv_r9 hq, zq_qr (by omega), yv_k12 hq, yq_g, yv_z12 hq, yn_b hx50 (by decide), yq_g, nI_clamp (by omega), a29, f1, yq_c, if_neg hz]
          exact ⟨r, τ', e1, yRs_6 (yf6_t a2 f3) e2⟩
      · -- stop
        have esu : ysu tt kd tg wy ex C t = [yU C (12 + t) (-1)] := by
          unfold ysu
          rw [hpl, if_neg m2, if_neg hno, if_neg (show ¬ kd x = 0 by omega), if_neg (show ¬ kd x = 1 by omega), if_neg (show ¬ kd x = 2 by omega), if_neg (show ¬ kd x = 3 by omega), if_neg (show ¬ kd x = 4 by omega), if_neg (show ¬ kd x = 5 by omega), if_neg (show ¬ kd x = 6 by omega), if_pos (show kd x = 9 from e)]
        have hX := hsv _ (by rw [esu]; exact List.mem_singleton.mpr rfl)
        obtain ⟨b1, b2⟩ := yMy_w (k := 12 + t) (y := -1) hq hpp a1 (by omega) (by omega)
        rw [(ypi_pl t ht4).1] at b1 b2
        obtain ⟨r, τ', e1, e2⟩ := ym_fin (F := F) b1 hW hX hs hK0 (by omega)
        unfold zf_M_each
        rw [esu, show nI (kd x) = (9 : Int32) from by rw [e]; rfl, if_neg (show ¬ (9 : Int32) = 0 by decide), if_neg (show ¬ (9 : Int32) = 1 by decide), if_neg (show ¬ (9 : Int32) = 2 by decide), if_neg (show ¬ (9 : Int32) = 3 by decide), if_neg (show ¬ (9 : Int32) = 4 by decide), if_neg (show ¬ (9 : Int32) = 5 by decide), if_neg (show ¬ (9 : Int32) = 6 by decide), if_neg (show ¬ (9 : Int32) = 7 by decide), if_neg (show ¬ (9 : Int32) = 8 by decide), if_pos (show (9 : Int32) = 9 from rfl), a29, yq_c, show (12 : Int32) + 5 * nI t + 3 = nI (12 + 5 * t + 3) from yn_ea t 3, yn_b (show 12 + 5 * t + 3 < 34 by omega) (by decide), yq_g, nI_clamp (by omega), yq_v, e1, yq_c, e2.1, yq_g]
        exact ⟨r, τ', rfl, yRs_6 (yf6_t a2 b2) e2⟩
      · -- 7
        obtain ⟨τ1, f1, f2, f3⟩ := ym_rk (F := F) hq hpp a1 ht x1 x2 (Or.inr ⟨by omega, by omega⟩) hF
        by_cases hz : yval C (ex x) = 0
        · have esu : ysu tt kd tg wy ex C t = [yU C (12 + t) (wy x 2)] := by
            unfold ysu
            rw [hpl, if_neg m2, if_neg hno, if_neg (show ¬ kd x = 0 by omega), if_neg (show ¬ kd x = 1 by omega), if_neg (show ¬ kd x = 2 by omega), if_neg (show ¬ kd x = 3 by omega), if_neg (show ¬ kd x = 4 by omega), if_neg (show ¬ kd x = 5 by omega), if_neg (show ¬ kd x = 6 by omega), if_neg (show ¬ kd x = 9 by omega), if_pos hz]
          have hX := hsv _ (by rw [esu]; exact List.mem_singleton.mpr rfl)
          obtain ⟨r, τ', e1, e2⟩ := ym_gr (F := F) (w := 2) hq hpp f2 ht x1 x2 (by omega) (Or.inr ⟨by omega, by omega⟩) hW hX hs hK0 (by omega)
          rw [esu, show nI (kd x) = (7 : Int32) from by rw [e]; rfl, if_neg (show ¬ (7 : Int32) = 0 by decide), if_neg (show ¬ (7 : Int32) = 1 by decide), if_neg (show ¬ (7 : Int32) = 2 by decide), if_neg (show ¬ (7 : Int32) = 3 by decide), if_neg (show ¬ (7 : Int32) = 4 by decide), if_neg (show ¬ (7 : Int32) = 5 by decide), if_neg (show ¬ (7 : Int32) = 6 by decide), if_pos (show (7 : Int32) = 7 from rfl), aq, zq_qr (by omega), yv_k hq, yq_g, yv_r9 hq, zq_qr (by omega), yv_k12 hq, yq_g, yv_z12 hq, yn_b hx50 (by decide), yq_g, nI_clamp (by omega), a29, f1, yq_c, if_pos hz]
          exact ⟨r, τ', e1, yRs_6 (yf6_t a2 f3) e2⟩
        · have esu : ysu tt kd tg wy ex C t = [yU C (12 + t) (wy x 1)] := by
            unfold ysu
            rw [hpl, if_neg m2, if_neg hno, if_neg (show ¬ kd x = 0 by omega), if_neg (show ¬ kd x = 1 by omega), if_neg (show ¬ kd x = 2 by omega), if_neg (show ¬ kd x = 3 by omega), if_neg (show ¬ kd x = 4 by omega), if_neg (show ¬ kd x = 5 by omega), if_neg (show ¬ kd x = 6 by omega), if_neg (show ¬ kd x = 9 by omega), if_neg hz]
          have hX := hsv _ (by rw [esu]; exact List.mem_singleton.mpr rfl)
          obtain ⟨r, τ', e1, e2⟩ := ym_gr (F := F) (w := 1) hq hpp f2 ht x1 x2 (by omega) (Or.inr ⟨by omega, by omega⟩) hW hX hs hK0 (by omega)
          rw [esu, show nI (kd x) = (7 : Int32) from by rw [e]; rfl, if_neg (show ¬ (7 : Int32) = 0 by decide), if_neg (show ¬ (7 : Int32) = 1 by decide), if_neg (show ¬ (7 : Int32) = 2 by decide), if_neg (show ¬ (7 : Int32) = 3 by decide), if_neg (show ¬ (7 : Int32) = 4 by decide), if_neg (show ¬ (7 : Int32) = 5 by decide), if_neg (show ¬ (7 : Int32) = 6 by decide), if_pos (show (7 : Int32) = 7 from rfl), aq, zq_qr (by omega), yv_k hq, yq_g, yv_r9 hq, zq_qr (by omega), yv_k12 hq, yq_g, yv_z12 hq, yn_b hx50 (by decide), yq_g, nI_clamp (by omega), a29, f1, yq_c, if_neg hz]
          exact ⟨r, τ', e1, yRs_6 (yf6_t a2 f3) e2⟩
      · -- 8
        obtain ⟨τ1, f1, f2, f3⟩ := ym_rk (F := F) hq hpp a1 ht x1 x2 (Or.inr ⟨by omega, by omega⟩) hF
        by_cases hz : yval C (ex x) = 0
        · have esu : ysu tt kd tg wy ex C t = [yU C (12 + t) (wy x 2)] := by
            unfold ysu
            rw [hpl, if_neg m2, if_neg hno, if_neg (show ¬ kd x = 0 by omega), if_neg (show ¬ kd x = 1 by omega), if_neg (show ¬ kd x = 2 by omega), if_neg (show ¬ kd x = 3 by omega), if_neg (show ¬ kd x = 4 by omega), if_neg (show ¬ kd x = 5 by omega), if_neg (show ¬ kd x = 6 by omega), if_neg (show ¬ kd x = 9 by omega), if_pos hz]
          have hX := hsv _ (by rw [esu]; exact List.mem_singleton.mpr rfl)
          obtain ⟨r, τ', e1, e2⟩ := ym_gr (F := F) (w := 2) hq hpp f2 ht x1 x2 (by omega) (Or.inr ⟨by omega, by omega⟩) hW hX hs hK0 (by omega)
          rw [esu, show nI (kd x) = (8 : Int32) from by rw [e]; rfl, if_neg (show ¬ (8 : Int32) = 0 by decide), if_neg (show ¬ (8 : Int32) = 1 by decide), if_neg (show ¬ (8 : Int32) = 2 by decide), if_neg (show ¬ (8 : Int32) = 3 by decide), if_neg (show ¬ (8 : Int32) = 4 by decide), if_neg (show ¬ (8 : Int32) = 5 by decide), if_neg (show ¬ (8 : Int32) = 6 by decide), if_neg (show ¬ (8 : Int32) = 7 by decide), if_pos (show (8 : Int32) = 8 from rfl), aq, zq_qr (by omega), yv_k hq, yq_g, yv_r9 hq, zq_qr (by omega), yv_k12 hq, yq_g, yv_z12 hq, yn_b hx50 (by decide), yq_g, nI_clamp (by omega), a29, f1, yq_c, if_pos hz]
          exact ⟨r, τ', e1, yRs_6 (yf6_t a2 f3) e2⟩
        · have esu : ysu tt kd tg wy ex C t = [yU C (12 + t) (wy x 1)] := by
            unfold ysu
            rw [hpl, if_neg m2, if_neg hno, if_neg (show ¬ kd x = 0 by omega), if_neg (show ¬ kd x = 1 by omega), if_neg (show ¬ kd x = 2 by omega), if_neg (show ¬ kd x = 3 by omega), if_neg (show ¬ kd x = 4 by omega), if_neg (show ¬ kd x = 5 by omega), if_neg (show ¬ kd x = 6 by omega), if_neg (show ¬ kd x = 9 by omega), if_neg hz]
          have hX := hsv _ (by rw [esu]; exact List.mem_singleton.mpr rfl)
          obtain ⟨r, τ', e1, e2⟩ := ym_gr (F := F) (w := 1) hq hpp f2 ht x1 x2 (by omega) (Or.inr ⟨by omega, by omega⟩) hW hX hs hK0 (by omega)
          rw [esu, show nI (kd x) = (8 : Int32) from by rw [e]; rfl, if_neg (show ¬ (8 : Int32) = 0 by decide), if_neg (show ¬ (8 : Int32) = 1 by decide), if_neg (show ¬ (8 : Int32) = 2 by decide), if_neg (show ¬ (8 : Int32) = 3 by decide), if_neg (show ¬ (8 : Int32) = 4 by decide), if_neg (show ¬ (8 : Int32) = 5 by decide), if_neg (show ¬ (8 : Int32) = 6 by decide), if_neg (show ¬ (8 : Int32) = 7 by decide), if_pos (show (8 : Int32) = 8 from rfl), aq, zq_qr (by omega), yv_k hq, yq_g, yv_r9 hq, zq_qr (by omega), yv_k12 hq, yq_g, yv_z12 hq, yn_b hx50 (by decide), yq_g, nI_clamp (by omega), a29, f1, yq_c, if_neg hz]
          exact ⟨r, τ', e1, yRs_6 (yf6_t a2 f3) e2⟩
end YMV
