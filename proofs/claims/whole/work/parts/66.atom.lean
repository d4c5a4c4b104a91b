/-! expressions: atoms -/
section YTA
variable {F n m p q t V L T : Nat} {v : Nat → Nat}
theorem yx_1003 {v : Nat → Nat} {n j : Nat} (hb : ∀ x, x < n → v x < 256) (h : (yx_tk v n j).1 = 1003) : (yx_tk v n j).2.2 ≤ 127 := by
  unfold yx_tk at h ⊢
  by_cases hj : n ≤ j
  · rw [if_pos hj] at h
    exact absurd h (show ¬ (1000 : Nat) = 1003 by decide)
  · rw [if_neg hj] at h ⊢
    by_cases hl : yx_lt (v j) = true
    · rw [if_pos hl] at h
      have hE : j < yx_E yx_ld v n j := by
        rw [yx_Es (by omega) (yx_ld_iff.mpr (Or.inl hl))]
        exact yx_E_le
      by_cases q : yx_E yx_ld v n j - j ≤ 8
      · have hw := yx_wd (v := v) (j := j) (m := yx_E yx_ld v n j - j) hl (by omega) q (fun x hx => by
          have := yx_E_all (P := yx_ld) (v := v) (n := n) (i := j) (x := j + x) (by omega) (by omega)
          have h2 := yx_ld_iff.mp this
          rcases h2 with h2 | h2
          · have := yx_lt_iff.mp h2
            omega
          · have := yx_dg_iff.mp h2
            omega)
        rw [if_pos q] at h
        by_cases r : yx_find (yx_pn v j (yx_E yx_ld v n j - j)) (yx_E yx_ld v n j - j) = 1001
        · rw [if_pos r] at h
          exact absurd h (show ¬ (1002 : Nat) = 1003 by decide)
        · rw [if_neg r] at h
          have h : yx_find (yx_pn v j (yx_E yx_ld v n j - j)) (yx_E yx_ld v n j - j) = 1003 := h
          omega
      · rw [if_neg q] at h
        exact absurd h (show ¬ (1001 : Nat) = 1003 by decide)
    · rw [if_neg hl] at h ⊢
      by_cases hd : yx_dg (v j) = true
      · rw [if_pos hd] at h ⊢
        by_cases q : yx_nn v j (yx_E yx_dg v n j - j) ≤ 127
        · exact q
        · rw [if_neg q] at h
          exact absurd h (show ¬ (1001 : Nat) = 1003 by decide)
      · rw [if_neg hd] at h
        have hd2 : (if j + 1 < n then v (j + 1) else 0) < 256 := by
          by_cases q : j + 1 < n
          · rw [if_pos q]
            exact hb _ q
          · rw [if_neg q]
            decide
        have e2 := yx_f2d (hb j (by omega)) hd2 hl
        have e1 := yx_f1d (c := v j)
        by_cases q : yx_find (v j * 256 + (if j + 1 < n then v (j + 1) else 0)) 2 = 1001
        · rw [if_pos q] at h
          have h : yx_find (v j) 1 = 1003 := h
          omega
        · rw [if_neg q] at h
          have h : yx_find (v j * 256 + (if j + 1 < n then v (j + 1) else 0)) 2 = 1003 := h
          omega
theorem y150 : nI 150 = 150 := rfl
def yoC (p c a : Nat) (g : Nat × Int32) (u : Int32) (σ : zs_S) : zs_S := zs_wi (zs_wi (zs_wi (zs_wr (zs_wi σ 7 9 (nI (a + 1))) (p + 56) c g.1) (p + 57) c g.2) (p + 55) 3 (nI (c + 1))) 7 10 u
def yoM (q e a : Nat) (y1 y2 : Int32) (τ : zs_S) : zs_S := zs_wi (zs_wi (zs_wi (zs_wi (zs_wi τ (q + 14) e y1) q 12 (nI (e + 1))) (q + 14) (e + 1) y2) q 12 (nI (e + 1 + 1))) 1 14 (nI (a + 1))
theorem yx_one {i s a c e : Nat} {σ τ : zs_S} {g : Nat × Int32} {u y1 y2 : Int32} (h : yN F v n m p q t V L T i s a c e σ τ) (ha : a < 150) (hi : i < m) (hg : g.1 = 1003 ∨ g.1 = 1002) (hE : yEl t V T g) (hs : ysp t g = [y1, y2]) (hu : u = yu1 (zs_i σ 7 10) g) : ∃ τ', zf_Parser_advance F (yoC p c a g u σ) = some (yadv v n i (yoC p c a g u σ)) ∧ zf_M_step F (yoM q e a y1 y2 τ) = some τ' ∧ yXO F v n m p q t V L T 0 i s a c e σ τ (i + 1) (a + 1) (c + 1) (e + 2) [g] (yadv v n i (yoC p c a g u σ)) τ' := by
  have h0 := h
  obtain ⟨⟨h1, hp, hq⟩, h4, h5, ⟨h6, h7, h8⟩, ⟨h9, h9b, h9c⟩, ⟨h10, h10b⟩, ⟨h11, h11b⟩, h12⟩ := h
  have hp2 := yPP_b hp
  have hq2 := yQQ_b hq
  have hm := yB_m h1
  obtain ⟨a1, a2, a3, a4, a5, a6, a7⟩ := h4
  have hPC : yP v n m p i (yoC p c a g u σ) := by
    unfold yoC
    exact ⟨by simp (disch := omega) only [yt_in, yt_ie, yt_ir, yt_il, yt_ri, yt_rl, yt_rn, yt_re, yt_li, yt_lr, yt_ln, yt_le]; exact a1, by simp (disch := omega) only [yt_in, yt_ie, yt_ir, yt_il, yt_ri, yt_rl, yt_rn, yt_re, yt_li, yt_lr, yt_ln, yt_le]; exact a2, by simp (disch := omega) only [yt_in, yt_ie, yt_ir, yt_il, yt_ri, yt_rl, yt_rn, yt_re, yt_li, yt_lr, yt_ln, yt_le]; exact a3, by simp (disch := omega) only [yt_in, yt_ie, yt_ir, yt_il, yt_ri, yt_rl, yt_rn, yt_re, yt_li, yt_lr, yt_ln, yt_le]; exact a4, by simp (disch := omega) only [yt_in, yt_ie, yt_ir, yt_il, yt_ri, yt_rl, yt_rn, yt_re, yt_li, yt_lr, yt_ln, yt_le]; exact a5, a6, yx_rowsF a7 (fun k => by simp (disch := omega) only [yt_in, yt_ie, yt_ir, yt_il, yt_ri, yt_rl, yt_rn, yt_re, yt_li, yt_lr, yt_ln, yt_le]) (fun k => by simp (disch := omega) only [yt_in, yt_ie, yt_ir, yt_il, yt_ri, yt_rl, yt_rn, yt_re, yt_li, yt_lr, yt_ln, yt_le]) (fun k => rfl)⟩
  have hMM : yM F v n m q i (yoM q e a y1 y2 τ) := by
    unfold yoM
    exact yM_L h5 (fun k => by simp (disch := omega) only [yt_in, yt_ie, yt_ir, yt_il, yt_ri, yt_rl, yt_rn, yt_re, yt_li, yt_lr, yt_ln, yt_le]) (fun k _ _ => by simp (disch := omega) only [yt_in, yt_ie, yt_ir, yt_il, yt_ri, yt_rl, yt_rn, yt_re, yt_li, yt_lr, yt_ln, yt_le]) rfl
  obtain ⟨k1, k2⟩ := yy_adv (F := F) h1 hPC hi
  obtain ⟨τ', k3, k4, k5⟩ := yw_e (ym_step h1 hMM hi)
  have fC : yfC p c σ (yadv v n i (yoC p c a g u σ)) := by
    unfold yadv yoC
    exact ⟨fun o k x y z => by simp (disch := omega) only [yt_in, yt_ie, yt_ir, yt_il, yt_ri, yt_rl, yt_rn, yt_re, yt_li, yt_lr, yt_ln, yt_le], fun o k x y => by simp (disch := omega) only [yt_in, yt_ie, yt_ir, yt_il, yt_ri, yt_rl, yt_rn, yt_re, yt_li, yt_lr, yt_ln, yt_le], fun o k => rfl⟩
  have fM0 : yfM q e τ (yoM q e a y1 y2 τ) := by
    unfold yoM
    exact ⟨fun o k x y z => by simp (disch := omega) only [yt_in, yt_ie, yt_ir, yt_il, yt_ri, yt_rl, yt_rn, yt_re, yt_li, yt_lr, yt_ln, yt_le], fun o k => rfl⟩
  refine ⟨τ', k1, k3, ⟨fC, yfM_t fM0 (yfM_L k5) (Nat.le_refl e)⟩, by omega, yN_mk h0 fC (yfM_t fM0 (yfM_L k5) (Nat.le_refl e)) k2 k4 ⟨?_, ?_, by omega⟩ ⟨?_, by omega⟩ ⟨?_, by omega⟩, ⟨⟨?_, ?_, rfl⟩, ?_⟩, ?_, ?_, ?_⟩
  · unfold yadv yoC
    simp (disch := omega) only [yt_in, yt_ie, yt_ir, yt_il, yt_ri, yt_rl, yt_rn, yt_re, yt_li, yt_lr, yt_ln, yt_le]
  · rw [k5.1 1 14 (by omega)]
    unfold yoM
    simp (disch := omega) only [yt_in, yt_ie, yt_ir, yt_il, yt_ri, yt_rl, yt_rn, yt_re, yt_li, yt_lr, yt_ln, yt_le]
  · unfold yadv yoC
    simp (disch := omega) only [yt_in, yt_ie, yt_ir, yt_il, yt_ri, yt_rl, yt_rn, yt_re, yt_li, yt_lr, yt_ln, yt_le]
  · rw [k5.1 q 12 (by omega)]
    unfold yoM
    simp (disch := omega) only [yt_in, yt_ie, yt_ir, yt_il, yt_ri, yt_rl, yt_rn, yt_re, yt_li, yt_lr, yt_ln, yt_le]
  · unfold yadv yoC
    simp (disch := omega) only [yt_in, yt_ie, yt_ir, yt_il, yt_ri, yt_rl, yt_rn, yt_re, yt_li, yt_lr, yt_ln, yt_le]
  · unfold yadv yoC
    simp (disch := omega) only [yt_in, yt_ie, yt_ir, yt_il, yt_ri, yt_rl, yt_rn, yt_re, yt_li, yt_lr, yt_ln, yt_le]
  · show yRw τ' q (ysp t g ++ []) e (e + 2)
    rw [hs]
    refine ⟨?_, ?_, rfl⟩
    · rw [k5.1 (q + 14) e (by omega)]
      unfold yoM
      simp (disch := omega) only [yt_in, yt_ie, yt_ir, yt_il, yt_ri, yt_rl, yt_rn, yt_re, yt_li, yt_lr, yt_ln, yt_le]
    · rw [k5.1 (q + 14) (e + 1) (by omega)]
      unfold yoM
      simp (disch := omega) only [yt_in, yt_ie, yt_ir, yt_il, yt_ri, yt_rl, yt_rn, yt_re, yt_li, yt_lr, yt_ln, yt_le]
  · intro x hx
    rw [List.mem_singleton] at hx
    subst hx
    exact hE
  · intro hh hb
    rw [yok, if_pos hg]
    exact ⟨by omega, rfl⟩
  · show _ = yu1 (zs_i σ 7 10) g
    rw [← hu]
    unfold yadv yoC
    simp (disch := omega) only [yt_in, yt_ie, yt_ir, yt_il, yt_ri, yt_rl, yt_rn, yt_re, yt_li, yt_lr, yt_ln, yt_le]
/-- expect and take -/
theorem yN_ex {i s a c e x X : Nat} {σ τ : zs_S} (h : yN F v n m p q t V L T i s a c e σ τ) (hX : zf_M_is F X τ = some (if (yx_tk v n (yx_ps v n i)).1 = x then 1 else 0, τ)) (hx : x ≠ 1000) (hx1 : x ≠ 1001) (hx2 : x < 1200) : (yx_c v n i = x ∧ ∃ τ1, zf_Parser_expect F x σ = some (yadv v n i σ) ∧ zf_M_take F X τ = some (1, τ1) ∧ yN F v n m p q t V L T (i + 1) s a c e (yadv v n i σ) τ1 ∧ yfC p c σ (yadv v n i σ) ∧ ym_L τ τ1 ∧ zs_i (yadv v n i σ) 7 10 = zs_i σ 7 10) ∨ (zf_Parser_expect F x σ = some (yfl v n i σ) ∧ zf_M_take F X τ = some (0, zs_wi τ 1 11 (nI (yx_ps v n i))) ∧ yXF p q c e σ τ (yfl v n i σ) (zs_wi τ 1 11 (nI (yx_ps v n i)))) := by
  obtain ⟨k1, k2, k3, k4, k5, hp2, hq2⟩ := yN_tok h
  by_cases hc : yx_c v n i = x
  · have hi := yB_lt h.1.1 k4 (by omega) (by omega)
    obtain ⟨τ1, e1, e2, h1, f1, f2, u1⟩ := yN_st h hi
    refine Or.inl ⟨hc, τ1, (yy_exp h.1.1 h.2.1 hc hx hx1).1, ?_, h1, f1, f2, u1⟩
    unfold zf_M_take
    rw [hX, if_pos (show (yx_tk v n (yx_ps v n i)).1 = x from hc), zq_cr, if_neg y01, e2]
    rfl
  · obtain ⟨e1, e2, h1⟩ := yN_fl h
    refine Or.inr ⟨(yy_nexp h.1.1 h.2.1 hc hx2).1, ?_, h1⟩
    unfold zf_M_take
    rw [hX, if_neg (show ¬ (yx_tk v n (yx_ps v n i)).1 = x from hc), zq_cr, if_pos y00, e2]
    rfl
theorem yXO_fr {i s a c e i' a' c' e' : Nat} {σ τ σ1 τ1 σ' τ' : zs_S} {l : List (Nat × Int32)} (h1 : yfC p c σ σ1) (h2 : yfM q e τ τ1) (h3 : zs_i σ1 7 10 = zs_i σ 7 10) (h : yXO F v n m p q t V L T 0 (i + 1) s a c e σ1 τ1 i' a' c' e' l σ' τ') : yXO F v n m p q t V L T 0 i s a c e σ τ i' a' c' e' l σ' τ' := by
  obtain ⟨⟨g1, g2⟩, g3, g4, g5, g7, g8, g9⟩ := h
  exact ⟨⟨yfC_t h1 g1 (Nat.le_refl c), yfM_t h2 g2 (Nat.le_refl e)⟩, by omega, g4, g5, g7, g8, by rw [g9, h3]⟩
theorem yXO_bk {u i s a c e i' a' c' e' : Nat} {σ τ σ1 τ1 σ' τ' : zs_S} {l : List (Nat × Int32)} (h : yXO F v n m p q t V L T u i s a c e σ τ i' a' c' e' l σ' τ') (h1 : yfC p c' σ' σ1) (h2 : yfM q e' τ' τ1) (h3 : zs_i σ1 7 10 = zs_i σ' 7 10) (h4 : yN F v n m p q t V L T (i' + 1) s a' c' e' σ1 τ1) : yXO F v n m p q t V L T u i s a c e σ τ (i' + 1) a' c' e' l σ1 τ1 := by
  obtain ⟨⟨g1, g2⟩, g3, g4, ⟨g5, g6⟩, g7, g8, g9⟩ := h
  have hp2 := yPP_b h4.1.2.1
  have hq2 := yQQ_b h4.1.2.2
  exact ⟨⟨yfC_t g1 h1 (by omega), yfM_t g2 h2 (by omega)⟩, by omega, h4, ⟨yCl_F g5 (fun k k1 k2 => ⟨h1.2.1 _ _ (by omega) (by omega), h1.1 _ _ (by omega) (by omega) (by omega)⟩), yRw_F g6 (fun k k1 k2 => h2.1 _ _ (by omega) (by omega) (by omega))⟩, g7, g8, by rw [h3, g9]⟩
/-- a number or a name -/
theorem yx_opd {i s a c e : Nat} {σ τ : zs_S} {kM : Int32 → zs_S → Option (Int32 × zs_S)} (hF : 1700 < F) (h : yN F v n m p q t V L T i s a c e σ τ) (hc : yx_c v n i = 1003 ∨ yx_c v n i = 1002) : yr (zf_Parser_readOperand F σ) (zf_M_atom_b_139 kM F τ) (fun σ' r => yXP F v n m p q t V L T 0 i s a c e σ τ r.1 σ' r.2) := by
  obtain ⟨k1, k2, k3, k4, hA, hp2, hq2⟩ := yN_tok h
  have h0 := h
  obtain ⟨⟨h1, hp, hq⟩, h4, h5, ⟨h6, h7, h8⟩, ⟨h9, h9b, h9c⟩, ⟨h10, h10b⟩, ⟨h11, h11b⟩, h12⟩ := h
  have hm := yB_m h1
  have hi := yB_lt h1 k4 (by omega) (by omega)
  obtain ⟨e1, e2, h1f⟩ := yN_fl h0
  have t4 : zs_r σ 7 4 = 3 := h4.1
  have t7 : zs_r σ 7 7 = p := h4.2.1
  have t5 : zs_i σ 7 5 = nI i := h4.2.2.2.1
  have hkd : zs_i τ 1 7 = yx_kd (yx_c v n i) := hA.2.1.2.2.2.1
  have b149 : zf_M_atom_b_149 kM F τ = some (0, zs_wi τ 1 11 (nI (yx_ps v n i))) := by
    unfold zf_M_atom_b_149
    rw [e2]
    rfl
  have c80 : zf_Parser_readOperand_80 F σ = some (yfl v n i σ) := by
    unfold zf_Parser_readOperand_80
    rw [e1]
    rfl
  have n150 : a < 150 → ¬ nI a = 150 := fun ha => by
    rw [show (150 : Int32) = nI 150 from rfl, yn_eq (by omega) (by omega)]
    omega
  have hadd : ∀ g x, 1000 ≤ g → g < 1037 → zf_Code_add F (p + 55) g x (zs_wi σ 7 9 (nI (a + 1))) = some (zs_wi (zs_wi (zs_wr (zs_wi σ 7 9 (nI (a + 1))) (p + 56) c g) (p + 57) c x) (p + 55) 3 (nI (c + 1))) := fun g x g1 g2 => yy_addc hp (by rw [yt_in _ _ (by omega)]; exact h10) (by omega) g1 g2
  have hput : ∀ x y, zf_M_put F x τ = some (zs_wi (zs_wi τ (q + 14) e x) q 12 (nI (e + 1))) ∧ zf_M_put F y (zs_wi (zs_wi τ (q + 14) e x) q 12 (nI (e + 1))) = some (zs_wi (zs_wi (zs_wi (zs_wi τ (q + 14) e x) q 12 (nI (e + 1))) (q + 14) (e + 1) y) q 12 (nI (e + 1 + 1))) := fun x y => ⟨ym_put hq h5.2.2.1 h11 (by omega), ym_put hq h5.2.2.1 (yt_ie _ _ _ _) (by omega)⟩
  have hat : ∀ x y, zs_i (zs_wi (zs_wi (zs_wi (zs_wi τ (q + 14) e x) q 12 (nI (e + 1))) (q + 14) (e + 1) y) q 12 (nI (e + 1 + 1))) 1 14 = nI a := fun x y => by
    simp (disch := omega) only [yt_in, yt_ie, yt_ir, yt_il, yt_ri, yt_rl, yt_rn, yt_re, yt_li, yt_lr, yt_ln, yt_le]
    exact h9b
  have m270 : ∀ x y τ', zf_M_step F (yoM q e a x y τ) = some τ' → zf_M_atom_b_270 kM F (zs_wi (zs_wi (zs_wi (zs_wi τ (q + 14) e x) q 12 (nI (e + 1))) (q + 14) (e + 1) y) q 12 (nI (e + 1 + 1))) = some (1, τ') := fun x y τ' hh => by
    unfold zf_M_atom_b_270
    rw [hat, nI_1]
    show zq_d (zf_M_step F (yoM q e a x y τ)) _ = _
    rw [hh]
    rfl
  rcases hc with hc | hc
  · have hl : zs_l σ 6 i = lN (yx_tk v n (yx_ps v n i)).2.2 := (h4.2.2.2.2.2.2 i (by omega)).2.2 (Or.inr hc)
    have hk := yx_1003 h1.2.1 (show (yx_tk v n (yx_ps v n i)).1 = 1003 from hc)
    have hnum : zs_i τ 1 10 = nI (yx_tk v n (yx_ps v n i)).2.2 := hA.2.1.2.2.2.2 hc
    generalize hkk : (yx_tk v n (yx_ps v n i)).2.2 = k at *
    have ec : zf_Parser_readOperand F σ = zf_Parser_readOperand_65 F 0 (nI k) 1 σ := by
      unfold zf_Parser_readOperand zf_Parser_readOperand_15 zf_Parser_readOperand_41 zf_Parser_readOperand_60
      simp (disch := first | omega | decide) only [k1, hc, zq_qr, yn_12, zq_gr, Nat.reduceEqDiff, reduceIte, t4, ys_k3, ys_r2, ys_k6, ys_z6, t5, yn_b, nI_clamp, hl, lN_i]
    by_cases ha : a < 150
    · obtain ⟨τ', f1, f2, f3⟩ := yx_one (u := zs_i σ 7 10) (g := (1003, nI k)) (y1 := 0) (y2 := nI k) h0 ha hi (Or.inl rfl) (Or.inl ⟨rfl, k, hk, rfl⟩) rfl rfl
      have hs2 : yoC p c a (1003, nI k) (zs_i σ 7 10) σ = zs_wi (zs_wi (zs_wr (zs_wi σ 7 9 (nI (a + 1))) (p + 56) c 1003) (p + 57) c (nI k)) (p + 55) 3 (nI (c + 1)) := yt_ws (by simp (disch := omega) only [yt_in, yt_ie, yt_ir, yt_il, yt_ri, yt_rl, yt_rn, yt_re, yt_li, yt_lr, yt_ln, yt_le])
      refine yr_i (a := yadv v n i (yoC p c a (1003, nI k) (zs_i σ 7 10) σ)) (b := (1, τ')) ?_ ?_ (Or.inl ⟨rfl, _, _, _, _, _, f3⟩)
      · rw [ec]
        unfold zf_Parser_readOperand_65 zf_Parser_readOperand_133
        rw [if_neg (by decide), h9, if_neg (n150 ha), nI_1]
        simp (disch := first | omega | decide) only [zq_v, yt_ri, t7, zq_qr, yp_k hp, zq_gr, yp_r8 hp, k1, hc, yp_k55 hp, hadd, zq_dr, reduceIte]
        rw [← hs2, f1]
        rfl
      · unfold zf_M_atom_b_139
        rw [h9b, if_neg (n150 ha), hkd, hc, if_pos (by decide), (hput 0 0).1]
        rw [zq_dr, show zs_i (zs_wi (zs_wi τ (q + 14) e 0) q 12 (nI (e + 1))) 1 10 = nI k by simp (disch := omega) only [yt_in, yt_ie, yt_ir, yt_il, yt_ri, yt_rl, yt_rn, yt_re, yt_li, yt_lr, yt_ln, yt_le]; exact hnum, (hput 0 (nI k)).2]
        exact m270 _ _ _ f2
    · have ha : a = 150 := by omega
      subst ha
      refine yr_i (a := yfl v n i σ) (b := (0, zs_wi τ 1 11 (nI (yx_ps v n i)))) ?_ ?_ (Or.inr ⟨rfl, h1f⟩)
      · rw [ec]
        unfold zf_Parser_readOperand_65
        rw [if_neg (by decide), h9, if_pos y150, c80]
      · unfold zf_M_atom_b_139
        rw [h9b, if_pos y150, b149]
  · obtain ⟨r, r0, r1, r2, e3, e4, e5, e6, hr⟩ := yy_look (F := F) (by omega) h1 hq hA.1 h4 hc h12
    obtain ⟨j1, j2⟩ := yM_c h1 h5 hc
    have ht4 : t < 4 := by
      obtain ⟨C, K, kv, kl, kt, hS, hT⟩ := h12
      exact hT.2.1
    have hVT : V ≤ 8 ∧ T ≤ 3 ∧ L ≤ 4 := by
      obtain ⟨C, K, kv, kl, kt, hS, hT⟩ := h12
      exact ⟨hS.1, hT.1, hS.2.1⟩
    have hr13 : zs_r τ 1 13 = q + 15 + 3 * t := by
      obtain ⟨C, K, kv, kl, kt, hS, hT⟩ := h12
      exact hT.2.2.2.2.1
    have ec : zf_Parser_readOperand F σ = zf_Parser_readOperand_41 F 1 r σ := by
      unfold zf_Parser_readOperand zf_Parser_readOperand_15
      simp (disch := first | omega | decide) only [k1, hc, zq_qr, yn_12, zq_gr, reduceIte, y10, e3, zq_cr]
    have em : a < 150 → zf_M_atom_b_139 kM F τ = (if 0 ≤ r0 then zf_M_atom_b_244 kM F r0 r1 τ else if 0 ≤ r1 then zf_M_atom_b_244 kM F r0 r1 τ else zq_c (zf_M_bad F τ) fun r35 σ34 => zq_g (zq_z r35) <| some (r35, σ34)) := by
      intro ha
      unfold zf_M_atom_b_139
      rw [h9b, if_neg (n150 ha), hkd, hc, if_neg (by decide)]
      rw [hr13, zq_qr (by omega), (yv_nt hq ht4).1.1, zq_gr, j2, j1, e4, zq_cr, h5.2.2.1, zq_qr (by omega), yv_k hq, zq_gr, yv_r0 hq, zq_qr (by omega), yv_k1 hq, zq_gr, j2, j1, e5, zq_cr]
    have em0 : ¬ a < 150 → zf_M_atom_b_139 kM F τ = some (0, zs_wi τ 1 11 (nI (yx_ps v n i))) := by
      intro ha
      unfold zf_M_atom_b_139
      rw [h9b, show a = 150 by omega, if_pos y150, b149]
    have fail0 : ¬ a < 150 → ∀ x1 x2, zf_Parser_readOperand_65 F x1 x2 1 σ = some (yfl v n i σ) := by
      intro ha x1 x2
      unfold zf_Parser_readOperand_65
      rw [if_neg (by decide), h9, show a = 150 by omega, if_pos y150, c80]
    have isv : ∀ x, x < 100 → ∀ σ, zf_Parser_isVariable F (nI x) σ = some (if x < 8 then 1 else 0, σ) := by
      intro x hx σ
      unfold zf_Parser_isVariable zf_Parser_isVariable_14 zf_Parser_isVariable_15
      rw [if_neg (nI_pos (by omega)), yn_8]
      by_cases q8 : x < 8
      · rw [if_neg (nI_ge q8 (by omega)), if_pos q8]
        rfl
      · rw [if_pos (nI_le (by omega) (by omega)), if_neg q8]
        rfl
    have isl : ∀ x, x < 100 → ∀ σ, zf_Parser_isLocal F (nI x) σ = some (if x < 20 then 0 else 1, σ) := by
      intro x hx σ
      unfold zf_Parser_isLocal zf_Parser_isLocal_11
      rw [show (20 : Int32) = nI 20 from rfl]
      by_cases q8 : x < 20
      · rw [if_pos (nI_lt q8 (by omega)), if_pos q8]
        rfl
      · rw [if_neg (nI_nlt (by omega) (by omega)), if_neg q8]
        rfl
    have bad0 : (zq_c (zf_M_bad F τ) fun r35 σ34 => zq_g (zq_z r35) <| some (r35, σ34)) = some (0, zs_wi τ 1 11 (nI (yx_ps v n i))) := by
      rw [e2]
      rfl
    have cadd : a < 150 → ∀ x, x < 100 → (x < 8 → zf_Parser_readOperand_65 F 1 (nI x) 1 σ = zf_Parser_readOperand_133 F (yoC p c a (1002, nI x) ((zs_i σ 7 10) ||| (1 <<< (nI x &&& 31))) σ)) ∧ (¬ x < 8 → zf_Parser_readOperand_65 F 1 (nI x) 1 σ = zf_Parser_readOperand_133 F (yoC p c a (1002, nI x) (zs_i σ 7 10) σ)) := by
      intro ha x hx
      have hs2 : yoC p c a (1002, nI x) (zs_i σ 7 10) σ = zs_wi (zs_wi (zs_wr (zs_wi σ 7 9 (nI (a + 1))) (p + 56) c 1002) (p + 57) c (nI x)) (p + 55) 3 (nI (c + 1)) := yt_ws (by simp (disch := omega) only [yt_in, yt_ie, yt_ir, yt_il, yt_ri, yt_rl, yt_rn, yt_re, yt_li, yt_lr, yt_ln, yt_le])
      have e65 : zf_Parser_readOperand_65 F 1 (nI x) 1 σ = if (if x < 8 then (1 : Int32) else 0) = 0 then zf_Parser_readOperand_133 F (zs_wi (zs_wi (zs_wr (zs_wi σ 7 9 (nI (a + 1))) (p + 56) c 1002) (p + 57) c (nI x)) (p + 55) 3 (nI (c + 1))) else zf_Parser_readOperand_133 F (yoC p c a (1002, nI x) ((zs_i σ 7 10) ||| (1 <<< (nI x &&& 31))) σ) := by
        unfold zf_Parser_readOperand_65
        rw [if_neg (by decide), h9, if_neg (n150 ha), nI_1]
        have u10 : zs_i (zs_wi (zs_wi (zs_wr (zs_wi σ 7 9 (nI (a + 1))) (p + 56) c 1002) (p + 57) c (nI x)) (p + 55) 3 (nI (c + 1))) 7 10 = zs_i σ 7 10 := by simp (disch := omega) only [yt_in, yt_ie, yt_ir, yt_il, yt_ri, yt_rl, yt_rn, yt_re, yt_li, yt_lr, yt_ln, yt_le]
        simp (disch := first | omega | decide) only [zq_v, yt_ri, t7, zq_qr, yp_k hp, zq_gr, yp_r8 hp, k1, hc, yp_k55 hp, hadd, zq_dr, y10, reduceIte, isv x hx, zq_cr, u10]
        rfl
      constructor
      · intro q8
        rw [e65, if_pos q8, if_neg (by decide)]
      · intro q8
        rw [e65, if_neg q8, if_pos rfl, hs2]
    have fin : ∀ g u y1 y2, a < 150 → g.1 = 1002 → yEl t V T g → ysp t g = [y1, y2] → u = yu1 (zs_i σ 7 10) g → zf_Parser_readOperand F σ = zf_Parser_readOperand_133 F (yoC p c a g u σ) → zf_M_atom_b_139 kM F τ = zf_M_atom_b_270 kM F (zs_wi (zs_wi (zs_wi (zs_wi τ (q + 14) e y1) q 12 (nI (e + 1))) (q + 14) (e + 1) y2) q 12 (nI (e + 1 + 1))) → yr (zf_Parser_readOperand F σ) (zf_M_atom_b_139 kM F τ) (fun σ' r => yXP F v n m p q t V L T 0 i s a c e σ τ r.1 σ' r.2) := by
      intro g u y1 y2 ha hg hE hs hu ea eb
      obtain ⟨τ', f1, f2, f3⟩ := yx_one h0 ha hi (Or.inr hg) hE hs hu
      refine yr_i (b := (1, τ')) ?_ ?_ (Or.inl ⟨rfl, _, _, _, _, _, f3⟩)
      · rw [ea]
        unfold zf_Parser_readOperand_133
        rw [f1]
        rfl
      · rw [eb]
        exact m270 _ _ _ f2
    have e254 : ∀ y0 x2 x3 x, (if x2 < 0 then x3 else x2) = x → zf_M_atom_b_254 kM F x2 x3 y0 τ = zf_M_atom_b_270 kM F (zs_wi (zs_wi (zs_wi (zs_wi τ (q + 14) e y0) q 12 (nI (e + 1))) (q + 14) (e + 1) x) q 12 (nI (e + 1 + 1))) := by
      intro y0 x2 x3 x hx
      subst hx
      unfold zf_M_atom_b_254 zf_M_atom_b_267
      rw [(hput y0 0).1, zq_dr]
      by_cases h0 : x2 < 0
      · rw [if_pos h0, if_pos h0, (hput y0 x3).2, zq_dr]
      · rw [if_neg h0, if_neg h0, (hput y0 x2).2, zq_dr]
    rcases hr with ⟨x, x1, x2, x3⟩ | ⟨q0, ⟨x, x1, x2, x3, x4⟩ | ⟨x, x1, x2, x3, x4⟩ | ⟨x2, x3, x4⟩⟩
    · have e41 : zf_Parser_readOperand_41 F 1 r σ = zf_Parser_readOperand_65 F 1 (nI (20 + 3 * t + x)) 1 σ := by
        unfold zf_Parser_readOperand_41 zf_Parser_readOperand_60
        rw [if_neg (by decide), x2, isv _ (by omega), zq_cr, if_neg (show ¬ 20 + 3 * t + x < 8 by omega), if_pos rfl, isl _ (by omega)]
        rw [zq_cr, if_neg (show ¬ 20 + 3 * t + x < 20 by omega), if_neg (by decide)]
      by_cases ha : a < 150
      · refine fin (1002, nI (20 + 3 * t + x)) (zs_i σ 7 10) 2 (nI x) ha rfl (Or.inr (Or.inr (Or.inl ⟨rfl, x, x1, rfl⟩))) ?_ ?_ ?_ ?_
        · unfold ysp
          rw [if_neg (by show ¬ (1002 : Nat) = 1003; decide), if_pos rfl, if_neg (by show ¬ nI (20 + 3 * t + x) < nI 8; exact nI_nlt (by omega) (by omega)), yn_sub (by omega), show 20 + 3 * t + x - (20 + 3 * t) = x by omega]
        · unfold yu1
          rw [if_neg (fun hh => absurd hh.2 (nI_nlt (show 8 ≤ 20 + 3 * t + x by omega) (by omega)))]
        · rw [ec, e41, (cadd ha (20 + 3 * t + x) (by omega)).2 (by omega)]
        · rw [em ha, x3, if_pos (nI_pos' (by omega))]
          unfold zf_M_atom_b_244
          rw [if_neg (nI_pos (by omega))]
          exact e254 _ _ _ _ (if_neg (nI_pos (by omega)))
      · refine yr_i (a := yfl v n i σ) (b := (0, zs_wi τ 1 11 (nI (yx_ps v n i)))) ?_ (em0 ha) (Or.inr ⟨rfl, h1f⟩)
        rw [ec, e41, fail0 ha]
    · have e41 : zf_Parser_readOperand_41 F 1 r σ = zf_Parser_readOperand_65 F 1 (nI x) 1 σ := by
        unfold zf_Parser_readOperand_41 zf_Parser_readOperand_60
        rw [if_neg (by decide), x2, isv _ (by omega), zq_cr, if_pos (show x < 8 by omega), if_neg (by decide)]
      by_cases ha : a < 150
      · have hx8 : nI x < nI 8 := nI_lt (show x < 8 by omega) (by omega)
        refine fin (1002, nI x) ((zs_i σ 7 10) ||| (1 <<< (nI x &&& 31))) 1 (nI x) ha rfl (Or.inr (Or.inl ⟨rfl, x, x1, rfl⟩)) ?_ ?_ ?_ ?_
        · unfold ysp
          rw [if_neg (by show ¬ (1002 : Nat) = 1003; decide), if_pos rfl, if_pos (show ((1002, nI x) : Nat × Int32).2 < 8 from hx8)]
        · unfold yu1
          rw [if_pos ⟨rfl, hx8⟩]
        · rw [ec, e41, (cadd ha x (by omega)).1 (by omega)]
        · rw [em ha, q0, if_neg (by decide), x3, if_pos (nI_pos' (by omega))]
          unfold zf_M_atom_b_244
          rw [if_pos (by decide)]
          exact e254 _ _ _ _ (if_pos (by decide))
      · refine yr_i (a := yfl v n i σ) (b := (0, zs_wi τ 1 11 (nI (yx_ps v n i)))) ?_ (em0 ha) (Or.inr ⟨rfl, h1f⟩)
        rw [ec, e41, fail0 ha]
    · refine yr_i (a := yfl v n i σ) (b := (0, zs_wi τ 1 11 (nI (yx_ps v n i)))) ?_ ?_ (Or.inr ⟨rfl, h1f⟩)
      · rw [ec]
        unfold zf_Parser_readOperand_41
        rw [if_neg (by decide), x2, isv _ (by omega), zq_cr, if_neg (show ¬ 8 + x < 8 by omega), if_pos rfl, isl _ (by omega)]
        rw [zq_cr, if_pos (show 8 + x < 20 by omega), if_pos rfl]
        unfold zf_Parser_readOperand_65
        rw [if_pos rfl, c80]
      · by_cases ha : a < 150
        · rw [em ha, q0, if_neg (by decide), x3, if_neg (by decide), bad0]
        · exact em0 ha
    · refine yr_i (a := yfl v n i σ) (b := (0, zs_wi τ 1 11 (nI (yx_ps v n i)))) ?_ ?_ (Or.inr ⟨rfl, h1f⟩)
      · rw [ec]
        unfold zf_Parser_readOperand_41 zf_Parser_isVariable zf_Parser_isVariable_14 zf_Parser_isVariable_15 zf_Parser_isLocal zf_Parser_isLocal_11
        rw [if_neg (by decide), x2, if_pos (by decide), yz_0, zq_gr, zq_cr, if_pos y00, if_pos (by decide), zq_gr, zq_cr, if_pos y00]
        unfold zf_Parser_readOperand_65
        rw [if_pos rfl, c80]
      · by_cases ha : a < 150
        · rw [em ha, q0, if_neg (by decide), x3, if_neg (by decide), bad0]
        · exact em0 ha
end YTA
