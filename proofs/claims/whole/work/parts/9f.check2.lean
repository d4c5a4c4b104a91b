/-! check: the whole call -/
section YCL
variable {F n m p q t V L T : Nat} {v : Nat → Nat}
/-- what holds between calls -/
def yIv (σ τ : zs_S) : Prop := ∃ n v p p' q q', yx_TP v n σ ∧ yx_TP v n τ ∧ (zs_i σ 1 1 = nI n ∧ zs_i τ 1 1 = nI n) ∧ ((p = 20 ∧ p' = 79) ∨ (p = 79 ∧ p' = 20)) ∧ ((q = 3 ∧ q' = 30) ∨ (q = 30 ∧ q' = 3)) ∧ (zs_r σ 1 6 = p ∧ zs_r σ 1 7 = p' ∧ zs_r τ 1 2 = q ∧ zs_r τ 1 3 = q') ∧ (yEm σ τ p ∨ yFu σ τ p q)
theorem yIv_i {σ τ : zs_S} {p p' q q' : Nat} (h1 : zs_i σ 1 1 = 0) (h2 : zs_i τ 1 1 = 0) (hpp : (p = 20 ∧ p' = 79) ∨ (p = 79 ∧ p' = 20)) (hqq : (q = 3 ∧ q' = 30) ∨ (q = 30 ∧ q' = 3)) (hr : zs_r σ 1 6 = p ∧ zs_r σ 1 7 = p' ∧ zs_r τ 1 2 = q ∧ zs_r τ 1 3 = q') (h : yEm σ τ p ∨ yFu σ τ p q) : yIv σ τ := ⟨0, fun _ => 0, p, p', q, q', ⟨by omega, fun j hj => by omega⟩, ⟨by omega, fun j hj => by omega⟩, ⟨h1, h2⟩, hpp, hqq, hr, h⟩
theorem yy_check {σ τ : zs_S} (hF : 7000 < F) (h : yIv σ τ) : ∃ (r : Int32) (σ' τ' : zs_S), zf_S_check F σ = some (r, σ') ∧ zf_M_check F τ = some (r, τ') ∧ yIv σ' τ' := by
  obtain ⟨n, v, p, p', q, q', ht1, ht2, ⟨hn1, hn2⟩, hpp, hqq, ⟨hr6, hr7, hr2, hr3⟩, hin⟩ := h
  have hp : yPP p := by
    rcases hpp with ⟨e, -⟩ | ⟨e, -⟩
    · exact Or.inl e
    · exact Or.inr e
  have hp' : yPP p' := by
    rcases hpp with ⟨-, e⟩ | ⟨-, e⟩
    · exact Or.inr e
    · exact Or.inl e
  have hq : yQQ q := by
    rcases hqq with ⟨e, -⟩ | ⟨e, -⟩
    · exact Or.inl e
    · exact Or.inr e
  have hq' : yQQ q' := by
    rcases hqq with ⟨-, e⟩ | ⟨-, e⟩
    · exact Or.inr e
    · exact Or.inl e
  have hb : ∀ x, x < n → v x < 256 := fun x hx => (ht1.2 x hx).1
  obtain ⟨m, m1, m2, m3⟩ := yx_last (v := v) (n := n) hb
  obtain ⟨σ1, s1, s2, s3⟩ := yw_e (yy_split (F := F) ht1 (by omega) m2 m3)
  have hrow : yx_rows v n (m + 1) (zs_wi σ1 1 1 0) := fun x hx => by
    obtain ⟨c1, c2, c3⟩ := s3 x hx
    exact ⟨c1, (yt_in _ _ (by omega)).trans c2, c3⟩
  obtain ⟨r, σ6, r', τ1, a1, a2, a3, a4, a5⟩ := yy_parse (F := F) (p := p') (q := q') (by omega) ⟨ht1.1, hb, m2, m3⟩ hp' hq' hrow ht2 hn2 hr3
  -- what stays
  have i6 : ∀ o k, ¬ (o = 3 ∧ 3 ≤ k) → o ≠ 5 → ¬ (o = 1 ∧ k = 1) → ¬ (o = 7 ∨ o = 8 ∨ o = 9) → ¬ (p' ≤ o ∧ o < p' + 59) → zs_i σ6 o k = zs_i σ o k := fun o k w1 w2 w3 w4 w5 => by
    rw [(a3 o k w4 w5).1, yt_in _ _ (by omega), s2.1 o k w1 w2]
  have r6 : ∀ o k, o ≠ 4 → ¬ (o = 7 ∨ o = 8 ∨ o = 9) → ¬ (p' ≤ o ∧ o < p' + 59) → zs_r σ6 o k = zs_r σ o k := fun o k w1 w4 w5 => by
    rw [(a3 o k w4 w5).2.1]
    exact s2.2.1 o k w1
  have t6 : zs_i σ6 1 1 = 0 := by
    rw [(a3 _ _ (by omega) (by omega)).1, yt_ie]
  have ec : zf_S_check F σ = if r = (-2) then (zq_q (zs_r σ6 1 7) fun q9 => zq_q (zs_r σ6 1 6) fun q10 => zq_g (zq_n q10) <| zq_v (zs_wr σ6 1 7 q10) fun σ11 => zq_g (zq_n q9) <| zq_v (zs_wr σ11 1 6 q9) fun σ13 => zq_q (zs_r σ13 1 6) fun q15 => zq_c (zf_Explorer_explore F q15 σ13) fun r17 σ16 => if r17 = 0 then (zq_q (zs_r σ16 1 6) fun q19 => zq_g (zq_k 0 q19 15) <| zq_d (zf_Program_clear F q19 σ16) fun σ20 => zq_d (zf_States_clear F σ20) fun σ24 => some ((-3), σ24)) else some ((-2), σ16)) else some (r, σ6) := by
    have hr7' : zs_r (zs_wi σ1 1 1 0) 1 7 = p' := (s2.2.1 _ _ (by omega)).trans hr7
    unfold zf_S_check
    rw [hn1, s1, yq_s, yq_v, hr7', zq_qr (by omega), a1, yq_c]
  rcases a5 with ⟨y1, y2, y3⟩ | ⟨y1, f, y2, y3, y4⟩
  · -- a program
    obtain ⟨V, L, tt, S, c, e, B, Tt, hPQ⟩ := y3
    obtain ⟨kd, tg, wy, ex, p1, p2, p3, p4⟩ := yPQ_v hPQ
    have w67 : zs_r σ6 1 7 = p' := (r6 _ _ (by omega) (by omega) (by omega)).trans hr7
    have w66 : zs_r σ6 1 6 = p := (r6 _ _ (by omega) (by omega) (by omega)).trans hr6
    obtain ⟨σ13, hσ13⟩ : ∃ s, s = zs_wr (zs_wr σ6 1 7 p) 1 6 p' := ⟨_, rfl⟩
    have i13 : ∀ o k, zs_i σ13 o k = zs_i σ6 o k := fun o k => by rw [hσ13]; rfl
    have r13 : ∀ o k, ¬ (o = 1 ∧ (k = 6 ∨ k = 7)) → zs_r σ13 o k = zs_r σ6 o k := fun o k w => by rw [hσ13, yt_rn _ _ (by omega), yt_rn _ _ (by omega)]
    have r136 : zs_r σ13 1 6 = p' := by rw [hσ13, yt_re]
    have r137 : zs_r σ13 1 7 = p := by rw [hσ13, yt_rn _ _ (by omega), yt_re]
    have q2 : zs_r τ1 1 2 = q := (a4.2.1 _ _ (by omega)).trans hr2
    have q3 : zs_r τ1 1 3 = q' := (a4.2.1 _ _ (by omega)).trans hr3
    obtain ⟨τ14, hτ14⟩ : ∃ s, s = zs_wi (zs_wi (zs_wi (zs_wi (zs_wi (zs_wr (zs_wr τ1 1 2 q') 1 3 q) 1 4 1) 1 23 0) 1 24 0) 1 28 (-1)) 1 29 (-1) := ⟨_, rfl⟩
    have i14 : ∀ o k, ¬ (o = 1 ∧ (k = 4 ∨ k = 23 ∨ k = 24 ∨ k = 28 ∨ k = 29)) → zs_i τ14 o k = zs_i τ1 o k := fun o k w => by
      rw [hτ14]
      simp (disch := omega) only [yt_in, yt_ie, yt_ir, yt_il, yt_ri, yt_rl, yt_rn, yt_re, yt_li, yt_lr, yt_ln, yt_le]
    have n4 : zs_i τ14 1 4 = 1 := by
      rw [hτ14]
      simp (disch := omega) only [yt_in, yt_ie, yt_ir, yt_il, yt_ri, yt_rl, yt_rn, yt_re, yt_li, yt_lr, yt_ln, yt_le]
    have n23 : zs_i τ14 1 23 = nI 0 := by
      rw [hτ14]
      simp (disch := omega) only [yt_in, yt_ie, yt_ir, yt_il, yt_ri, yt_rl, yt_rn, yt_re, yt_li, yt_lr, yt_ln, yt_le]
      rfl
    have n24 : zs_i τ14 1 24 = nI 0 := by
      rw [hτ14]
      simp (disch := omega) only [yt_in, yt_ie, yt_ir, yt_il, yt_ri, yt_rl, yt_rn, yt_re, yt_li, yt_lr, yt_ln, yt_le]
      rfl
    have n28 : zs_i τ14 1 28 = -1 := by
      rw [hτ14]
      simp (disch := omega) only [yt_in, yt_ie, yt_ir, yt_il, yt_ri, yt_rl, yt_rn, yt_re, yt_li, yt_lr, yt_ln, yt_le]
    have n29 : zs_i τ14 1 29 = -1 := by
      rw [hτ14]
      simp (disch := omega) only [yt_in, yt_ie, yt_ir, yt_il, yt_ri, yt_rl, yt_rn, yt_re, yt_li, yt_lr, yt_ln, yt_le]
    have r142 : zs_r τ14 1 2 = q' := by
      rw [hτ14]
      simp (disch := omega) only [yt_in, yt_ie, yt_ir, yt_il, yt_ri, yt_rl, yt_rn, yt_re, yt_li, yt_lr, yt_ln, yt_le]
    have r143 : zs_r τ14 1 3 = q := by
      rw [hτ14]
      simp (disch := omega) only [yt_in, yt_ie, yt_ir, yt_il, yt_ri, yt_rl, yt_rn, yt_re, yt_li, yt_lr, yt_ln, yt_le]
    have hS := p1.1
    obtain ⟨u, u', σ16, τ16, z1, z2, z3, z4, z5⟩ := yy_expl (F := F) (σ := σ13) (τ := τ14) hp' hq' hF p1 (yPc_G hp' p1 (fun o k _ _ => i13 o k) (fun o k w1 w2 => r13 o k (by omega)) p2) (yPm_F hq' p1 (fun o k w1 w2 => i14 o k (by omega)) p3) ⟨fun x hx => by rw [i13, i14 _ _ (by omega)]; exact p4.1 x hx, fun t ht => by rw [i13, i14 _ _ (by omega)]; exact p4.2 t ht⟩ r142 n4 n23 n24 n28 n29
    have em : zf_M_check F τ = some (u', τ16) := by
      unfold zf_M_check
      rw [a2, yq_c, if_neg (by rw [y1]; decide), q2, zq_qr (by omega), q3, zq_qr (by omega), yn_n (by omega), yq_g, yq_v, yn_n (by omega), yq_g, yq_v, yq_v, yq_v, yq_v, yq_v, yq_v, ← hτ14]
      exact z2
    have ec2 : zf_S_check F σ = if u = 0 then (zq_q (zs_r σ16 1 6) fun q19 => zq_g (zq_k 0 q19 15) <| zq_d (zf_Program_clear F q19 σ16) fun σ20 => zq_d (zf_States_clear F σ20) fun σ24 => some ((-3), σ24)) else some ((-2), σ16) := by
      rw [ec, if_pos y2, w67, zq_qr (by omega), w66, zq_qr (by omega), yn_n (by omega), yq_g, yq_v, yn_n (by omega), yq_g, yq_v, ← hσ13, r136, zq_qr (by omega), z1, yq_c]
    have t16 : zs_i τ16 1 1 = 0 := by rw [z4.1 _ _ (by omega) (by omega), i14 _ _ (by omega)]; exact a4.2.2
    have x16 : zs_i σ16 1 1 = 0 := by rw [z3.1 _ _ (by omega) (by omega), i13]; exact t6
    have x166 : zs_r σ16 1 6 = p' := (z3.2 _ _ (by omega)).trans r136
    have x167 : zs_r σ16 1 7 = p := (z3.2 _ _ (by omega)).trans r137
    have x162 : zs_r τ16 1 2 = q' := (z4.2 _ _).trans r142
    have x163 : zs_r τ16 1 3 = q := (z4.2 _ _).trans r143
    rcases z5 with ⟨k1, k2, k3⟩ | ⟨k1, k2, k3, k4⟩
    · refine ⟨-2, σ16, τ16, ?_, by rw [em, k2], yIv_i (p := p') (p' := p) (q := q') (q' := q) x16 t16 (by omega) (by omega) ⟨x166, x167, x162, x163⟩ (Or.inr k3)⟩
      rw [ec2, if_neg (by rw [k1]; decide)]
    · obtain ⟨σ24, g1, g2, g3, g4, g5, g6, g7, g8⟩ := yx_clear (F := F) (σ := zs_wi (zs_wi (zs_wi (zs_wi (zs_wi σ16 p' 0 0) p' 1 0) p' 2 0) p' 3 0) (p' + 55) 3 0) (by omega)
      have epc : zf_Program_clear F p' σ16 = some (zs_wi (zs_wi (zs_wi (zs_wi (zs_wi σ16 p' 0 0) p' 1 0) p' 2 0) p' 3 0) (p' + 55) 3 0) := by
        unfold zf_Program_clear
        rw [yp_k hp', yq_g, yq_v, yq_v, yq_v, yq_v, yp_r8 hp', zq_qr (by omega), yp_k55 hp', yq_g, yq_v]
      have e2 : zf_S_check F σ = some (-3, σ24) := by
        rw [ec2, if_pos k1, x166, zq_qr (by omega), yp_k hp', yq_g, epc, yq_s, g1, yq_s]
      refine ⟨-3, σ24, τ16, e2, by rw [em, k2], yIv_i (p := p') (p' := p) (q := q') (q' := q) ?_ t16 (by omega) (by omega) ⟨(g7 _ _).trans x166, (g7 _ _).trans x167, x162, x163⟩ (Or.inl ⟨g2, ⟨?_, ?_, ?_, ?_⟩, k3, k4⟩)⟩
      · rw [g6 _ _ (by omega) (by omega)]
        simp (disch := omega) only [yt_in, yt_ie, yt_ir, yt_il, yt_ri, yt_rl, yt_rn, yt_re, yt_li, yt_lr, yt_ln, yt_le]
        exact x16
      · rw [g6 _ _ (by omega) (by omega)]
        simp (disch := omega) only [yt_in, yt_ie, yt_ir, yt_il, yt_ri, yt_rl, yt_rn, yt_re, yt_li, yt_lr, yt_ln, yt_le]
      · rw [g6 _ _ (by omega) (by omega)]
        simp (disch := omega) only [yt_in, yt_ie, yt_ir, yt_il, yt_ri, yt_rl, yt_rn, yt_re, yt_li, yt_lr, yt_ln, yt_le]
      · rw [g6 _ _ (by omega) (by omega)]
        simp (disch := omega) only [yt_in, yt_ie, yt_ir, yt_il, yt_ri, yt_rl, yt_rn, yt_re, yt_li, yt_lr, yt_ln, yt_le]
      · rw [g6 _ _ (by omega) (by omega)]
        simp (disch := omega) only [yt_in, yt_ie, yt_ir, yt_il, yt_ri, yt_rl, yt_rn, yt_re, yt_li, yt_lr, yt_ln, yt_le]
  · -- none
    have em : zf_M_check F τ = some (nI f, τ1) := by
      unfold zf_M_check
      rw [a2, yq_c, if_pos y1, y4]
    refine ⟨nI f, σ6, τ1, ?_, em, yIv_i (p := p) (p' := p') (q := q) (q' := q') t6 a4.2.2 hpp hqq ⟨(r6 _ _ (by omega) (by omega) (by omega)).trans hr6, (r6 _ _ (by omega) (by omega) (by omega)).trans hr7, (a4.2.1 _ _ (by omega)).trans hr2, (a4.2.1 _ _ (by omega)).trans hr3⟩ ?_⟩
    · rw [ec, if_neg (by rw [y3]; exact yn_ne2 (by omega)), y3]
    · rcases hin with ⟨e1, ⟨e2, e3, e4, e5⟩, e6, e7⟩ | hfu
      · refine Or.inl ⟨?_, ⟨?_, ?_, ?_, ?_⟩, ?_, ?_⟩
        · rw [i6 _ _ (by omega) (by omega) (by omega) (by omega) (by omega)]
          exact e1
        · rw [i6 _ _ (by omega) (by omega) (by omega) (by omega) (by omega)]
          exact e2
        · rw [i6 _ _ (by omega) (by omega) (by omega) (by omega) (by omega)]
          exact e3
        · rw [i6 _ _ (by omega) (by omega) (by omega) (by omega) (by omega)]
          exact e4
        · rw [i6 _ _ (by omega) (by omega) (by omega) (by omega) (by omega)]
          exact e5
        · rw [a4.1 _ _ (by omega) (by omega) (by omega)]
          exact e6
        · rw [a4.1 _ _ (by omega) (by omega) (by omega)]
          exact e7
      · exact Or.inr (yFu_F hp hq (fun o k w => i6 o k (by omega) (by omega) (by omega) (by omega) (by omega)) (fun o k w => r6 o k (by omega) (by omega) (by omega)) (fun o k w => a4.1 o k (by omega) (by omega) (by omega)) hfu)
end YCL
