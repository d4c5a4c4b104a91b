/-! expressions: the recursion; a whole expression; the class after a fault -/
section YXA
variable {F n m p q t V L T : Nat} {v : Nat → Nat}
theorem yo_1025 : yop 1025 = 7 := by decide
theorem yo_1004 : yop 1004 = 6 := by decide
theorem yx_un {i s a c e i' a' c' e' g : Nat} {σ τ σ1 τ1 σ2 τ2 : zs_S} {l : List (Nat × Int32)} (f1 : yfC p c σ σ1) (f2 : yfM q e τ τ1) (f3 : zs_i σ1 7 10 = zs_i σ 7 10) (hci : c ≤ i) (hg : g = 1025 ∨ g = 1004) (h : yXO F v n m p q t V L T 0 (i + 1) s a c e σ1 τ1 i' a' c' e' l σ2 τ2) : ∃ σ3 τ3, zf_Code_add F (p + 55) g 0 σ2 = some σ3 ∧ zf_M_put F (yop g) τ2 = some τ3 ∧ yXO F v n m p q t V L T 0 i s a c e σ τ i' a' (c' + 1) (e' + 1) (l ++ [(g, 0)]) σ3 τ3 := by
  obtain ⟨⟨g1, g2⟩, g3, g4, ⟨g5, g6⟩, g7, g8, g9⟩ := h
  obtain ⟨σ3, τ3, e5, e6, h3, j1, j2, j3, j4, j5, j6⟩ := yN_sg (g := g) g4 (by omega) (by omega) (by omega)
  have hp2 := yPP_b h3.1.2.1
  have hq2 := yQQ_b h3.1.2.2
  refine ⟨σ3, τ3, e5, e6, ⟨yfC_t f1 (yfC_t g1 j1 (by omega)) (by omega), yfM_t f2 (yfM_t g2 j2 (by omega)) (by omega)⟩, by omega, h3, ⟨?_, ?_⟩, ?_, ?_, ?_⟩
  · refine yCl_a (c2 := c') (l2 := [(g, 0)]) (d := c' + 1) ⟨j3, j4, rfl⟩ (yCl_F g5 (fun k k1 k2 => ⟨j1.2.1 _ _ (by omega) (by omega), j1.1 _ _ (by omega) (by omega) (by omega)⟩))
  · rw [List.flatMap_append]
    refine yRw_a (c2 := e') ?_ (yRw_F g6 (fun k k1 k2 => j2.1 _ _ (by omega) (by omega) (by omega)))
    have : [(g, (0 : Int32))].flatMap (ysp t) = [yop g] := by
      show ysp t (g, 0) ++ [] = _
      unfold ysp
      rw [if_neg (by show ¬ g = 1003; omega), if_neg (by show ¬ g = 1002; omega), List.append_nil]
    rw [this]
    exact ⟨j5, rfl⟩
  · intro x hx
    rcases List.mem_append.mp hx with hx | hx
    · exact g7 x hx
    · rw [List.mem_singleton] at hx
      subst hx
      exact Or.inr (Or.inr (Or.inr (Or.inl hg)))
  · intro hh hb
    refine yok_a (k := hh + 1) ?_ (g8 hh (by omega))
    rw [yok, if_neg (by show ¬ (g = 1003 ∨ g = 1002); omega), if_pos (by show g = 1025 ∨ g = 1004; omega)]
    exact ⟨by omega, rfl⟩
  · rw [j6, g9, List.foldl_append, f3]
    show _ = yu1 _ (g, 0)
    unfold yu1
    rw [if_neg (by show ¬ (g = 1002 ∧ _); omega)]
theorem yx_atom (hF : 1700 < F) : ∀ N d, d ≤ 8 → 8 - d < N → yXR F v n m p q t V L T (zf_Parser_readAtom F N (nI d)) (zf_M_atom F N (nI d)) := by
  intro N
  induction N with
  | zero => intro d _ h; omega
  | succ N ih =>
    intro d hd hN i s a c e σ τ h
    obtain ⟨k1, k2, k3, k4, hA, hp2, hq2⟩ := yN_tok h
    have hci : c ≤ i := h.2.2.2.2.2.1.2
    obtain ⟨fl1, fl2, fl3⟩ := yN_fl h
    have hkd : zs_i τ 1 7 = yx_kd (yx_c v n i) := hA.2.1.2.2.2.1
    have hgn := yB_t h.1.1 i
    rw [zf_Parser_readAtom, zf_M_atom]
    unfold zf_Parser_readAtom_b zf_M_atom_b
    rw [k1, zq_qr (by omega), yn_12 (by omega), zq_gr, zq_gr, zq_gr]
    have d8 : (nI d = (8 : Int32)) = (d = 8) := yn_eq (a := d) (b := 8) (by omega) (by omega)
    have dd : nI d + 1 = nI (d + 1) := nI_1 d
    have m149 : zf_M_atom_b_149 (zf_M_atom F N) F τ = some (0, zs_wi τ 1 11 (nI (yx_ps v n i))) := by
      unfold zf_M_atom_b_149
      rw [fl2]
      rfl
    have bad : (zq_c (zf_M_bad F τ) fun r20 σ19 => zq_g (zq_z r20) <| some (r20, σ19)) = some (0, zs_wi τ 1 11 (nI (yx_ps v n i))) := by
      rw [fl2]
      rfl
    have cfl : (zq_d (zf_Parser_fail F σ) fun σ57 => zf_Parser_readAtom_b_127 (zf_Parser_readAtom F N) F σ57) = some (yfl v n i σ) := by
      rw [fl1]
      rfl
    by_cases h3 : yx_c v n i = 1003
    · have hh : (yx_tk v n (yx_ps v n i)).1 = 1003 := h3
      rw [if_pos h3, yi_1319 hA, zq_cr, if_neg (show ¬ (yx_tk v n (yx_ps v n i)).1 = 1021 by omega), if_pos y00, yi_1315 hA, zq_cr, if_neg (show ¬ (yx_tk v n (yx_ps v n i)).1 = 1035 by omega), if_pos y00, yi_1331 hA, zq_cr, if_neg (show ¬ (yx_tk v n (yx_ps v n i)).1 = 1025 by omega), if_pos y00, hkd, h3, if_pos (show yx_kd 1003 = 2 by decide)]
      unfold zf_Parser_readAtom_b_19 zf_Parser_readAtom_b_127
      rw [yq_d]
      exact yx_opd hF h (Or.inl h3)
    by_cases h2 : yx_c v n i = 1002
    · have hh : (yx_tk v n (yx_ps v n i)).1 = 1002 := h2
      rw [if_neg h3, if_pos h2, yi_1319 hA, zq_cr, if_neg (show ¬ (yx_tk v n (yx_ps v n i)).1 = 1021 by omega), if_pos y00, yi_1315 hA, zq_cr, if_neg (show ¬ (yx_tk v n (yx_ps v n i)).1 = 1035 by omega), if_pos y00, yi_1331 hA, zq_cr, if_neg (show ¬ (yx_tk v n (yx_ps v n i)).1 = 1025 by omega), if_pos y00, hkd, h2, if_neg (show ¬ yx_kd 1002 = 2 by decide), yy_name hA, zq_cr, if_pos hh, if_neg y01]
      unfold zf_Parser_readAtom_b_19 zf_Parser_readAtom_b_127
      rw [yq_d]
      exact yx_opd hF h (Or.inr h2)
    rw [if_neg h3, if_neg h2]
    by_cases h21 : yx_c v n i = 1021
    · have hh : (yx_tk v n (yx_ps v n i)).1 = 1021 := h21
      rw [yi_1319 hA, zq_cr, if_pos hh, if_neg y01]
      unfold zf_M_atom_b_28
      by_cases h8 : d = 8
      · rw [if_pos (d8.mpr h8), if_pos (d8.mpr h8), bad, cfl]
        exact yr_i rfl rfl (Or.inr ⟨rfl, fl3⟩)
      · rw [if_neg (fun e => h8 (d8.mp e)), if_neg (fun e => h8 (d8.mp e)), zq_gr, if_pos h21, yi_1319 hA, zq_cr, if_pos hh, if_neg y01]
        have hi := yB_lt h.1.1 k4 (by omega) (by omega)
        obtain ⟨τ1, e1, e2, h1, f1, f2, u1⟩ := yN_st h hi
        obtain ⟨σ2, ⟨r, τ2⟩, e3, e4, hx⟩ := yx_either (N := 1) hF (ih (d + 1) (by omega) (by omega)) _ _ _ _ _ _ _ h1
        unfold zf_M_atom_b_69
        rw [e1, zq_dr, dd, e3, zq_dr, e2, zq_dr, if_pos (show (16 : Int32) = 16 from rfl), e4, zq_cr]
        unfold zf_Parser_readAtom_b_127
        rw [yq_d]
        unfold zf_M_atom_b_103 zf_M_atom_b_104
        rcases hx with ⟨hr, i', a', c', e', l, g⟩ | ⟨hr, g⟩
        · have hr : r = 1 := hr
          subst hr
          have hN2 := g.2.2.1
          rw [if_neg y01]
          rcases yN_ex hN2 (yi_1320 hN2.2.2.1.1) (by decide) (by decide) (by decide) with ⟨-, τ3, x1, x2, x3, x4, x5, x6⟩ | ⟨x1, x2, x3⟩
          · rw [x1, x2, zq_cr, if_neg y01, yz_1, zq_gr]
            exact yr_i rfl rfl (Or.inl ⟨rfl, _, _, _, _, _, yXO_fr f1 (yfM_L f2) u1 (yXO_bk g x4 (yfM_L x5) x6 x3)⟩)
          · rw [x1, x2, zq_cr, if_pos y00, yz_0, zq_gr]
            exact yr_i rfl rfl (Or.inr ⟨rfl, yXF_f f1 (yfM_L f2) (yXF_t g x3)⟩)
        · have hr : r = 0 := hr
          subst hr
          have g' := g
          obtain ⟨-, f, c', g3, -⟩ := g
          rw [if_pos y00, yz_0, zq_gr]
          exact yr_i (yy_kexp g3 (by decide) (by decide)) rfl (Or.inr ⟨rfl, yXF_f f1 (yfM_L f2) g'⟩)
    have un : ∀ g, (g = 1025 ∨ g = 1004) → (yx_c v n i = 1025 ∨ yx_c v n i = 1035) → ¬ d = 8 → (yx_c v n i = 1025 → g = 1025) → (yx_c v n i = 1035 → g = 1004) → yr (zf_Parser_readAtom_b_82 (zf_Parser_readAtom F N) F (nI d) (yx_c v n i) σ) (zf_M_atom_b_69 (zf_M_atom F N) F (nI d) (yop g) τ) (fun σ' r => yXP F v n m p q t V L T 0 i s a c e σ τ r.1 σ' r.2) := by
      intro g hg hc h8 hg1 hg2
      have hi := yB_lt h.1.1 k4 (by omega) (by omega)
      obtain ⟨τ1, e1, e2, h1, f1, f2, u1⟩ := yN_st h hi
      obtain ⟨σ2, ⟨r, τ2⟩, e3, e4, hx⟩ := ih (d + 1) (by omega) (by omega) _ _ _ _ _ _ _ h1
      have hop : ¬ yop g = 16 := by
        rcases hg with rfl | rfl <;> decide
      unfold zf_M_atom_b_69
      rw [e2, zq_dr, if_neg hop, dd, e4, zq_cr]
      have ec : zs_r σ2 7 7 = p → ∀ σ3, zf_Code_add F (p + 55) g 0 σ2 = some σ3 → zf_Parser_readAtom_b_82 (zf_Parser_readAtom F N) F (nI d) (yx_c v n i) σ = some σ3 := by
        intro pr σ3 ha
        unfold zf_Parser_readAtom_b_82 zf_Parser_readAtom_b_116 zf_Parser_readAtom_b_127
        rw [e1, zq_dr, dd, e3, zq_dr, pr, zq_qr (by omega), yp_k h.1.2.1, zq_gr, yp_r8 h.1.2.1, zq_qr (by omega), yn_12 (by omega), zq_gr, yp_k55 h.1.2.1, zq_gr, zq_gr]
        by_cases hc2 : yx_c v n i = 1025
        · rw [if_pos hc2, ← hg1 hc2, ha]
          rfl
        · rw [if_neg hc2, ← hg2 (by omega), ha]
          rfl
      rcases hx with ⟨hr, i', a', c', e', l, g0⟩ | ⟨hr, g0⟩
      · have hr : r = 1 := hr
        subst hr
        obtain ⟨σ3, τ3, j1, j2, j3⟩ := yx_un f1 (yfM_L f2) u1 hci hg g0
        rw [if_neg y01, j2, zq_dr]
        exact yr_i (ec g0.2.2.1.2.1.2.1 σ3 j1) rfl (Or.inl ⟨rfl, _, _, _, _, _, j3⟩)
      · have hr : r = 0 := hr
        subst hr
        rw [if_pos y00]
        obtain ⟨⟨y1, y2⟩, f, c', y3, y4, y5, y6, y7, y8⟩ := g0
        obtain ⟨σ3, c3, z1, z2, z3, z4, z5, z6, z7⟩ := yy_addk (F := F) (g := g) (x := 0) h.1.2.1 y6 y8 (by omega) (by omega)
        exact yr_i (ec y3.2.1 σ3 z1) rfl (Or.inr ⟨rfl, ⟨yfC_t f1 (yfC_t y1 z5 (by omega)) (by omega), yfM_t (yfM_L f2) y2 (by omega)⟩, f, c3, yK_F y3 z6 z7, y4, y5, z4, by omega, z3⟩)
    by_cases h35 : yx_c v n i = 1035
    · have hh : (yx_tk v n (yx_ps v n i)).1 = 1035 := h35
      rw [yi_1319 hA, zq_cr, if_neg (show ¬ (yx_tk v n (yx_ps v n i)).1 = 1021 by omega), if_pos y00, yi_1315 hA, zq_cr, if_pos hh, if_neg y01]
      unfold zf_M_atom_b_28
      by_cases h8 : d = 8
      · rw [if_pos (d8.mpr h8), if_pos (d8.mpr h8), bad, cfl]
        exact yr_i rfl rfl (Or.inr ⟨rfl, fl3⟩)
      · rw [if_neg (fun e => h8 (d8.mp e)), if_neg (fun e => h8 (d8.mp e)), zq_gr, if_neg h21, zq_gr, if_pos h35, yi_1319 hA, zq_cr, if_neg (show ¬ (yx_tk v n (yx_ps v n i)).1 = 1021 by omega), if_pos y00, yi_1315 hA, zq_cr, if_pos hh, if_neg y01, ← yo_1004]
        exact un 1004 (Or.inr rfl) (Or.inr h35) h8 (fun e => by omega) (fun _ => rfl)
    by_cases h25 : yx_c v n i = 1025
    · have hh : (yx_tk v n (yx_ps v n i)).1 = 1025 := h25
      rw [yi_1319 hA, zq_cr, if_neg (show ¬ (yx_tk v n (yx_ps v n i)).1 = 1021 by omega), if_pos y00, yi_1315 hA, zq_cr, if_neg (show ¬ (yx_tk v n (yx_ps v n i)).1 = 1035 by omega), if_pos y00, yi_1331 hA, zq_cr, if_pos hh, if_neg y01]
      unfold zf_M_atom_b_28
      by_cases h8 : d = 8
      · rw [if_pos (d8.mpr h8), if_pos (d8.mpr h8), bad, cfl]
        exact yr_i rfl rfl (Or.inr ⟨rfl, fl3⟩)
      · rw [if_neg (fun e => h8 (d8.mp e)), if_neg (fun e => h8 (d8.mp e)), zq_gr, if_neg h21, zq_gr, if_neg h35, if_pos h25, yi_1319 hA, zq_cr, if_neg (show ¬ (yx_tk v n (yx_ps v n i)).1 = 1021 by omega), if_pos y00, yi_1315 hA, zq_cr, if_neg (show ¬ (yx_tk v n (yx_ps v n i)).1 = 1035 by omega), if_pos y00, ← yo_1025]
        exact un 1025 (Or.inl rfl) (Or.inl h25) h8 (fun _ => rfl) (fun e => by omega)
    · have x21 : ¬ (yx_tk v n (yx_ps v n i)).1 = 1021 := h21
      have x35 : ¬ (yx_tk v n (yx_ps v n i)).1 = 1035 := h35
      have x25 : ¬ (yx_tk v n (yx_ps v n i)).1 = 1025 := h25
      have x02 : ¬ (yx_tk v n (yx_ps v n i)).1 = 1002 := h2
      have hk2 : ¬ yx_kd (yx_c v n i) = 2 := by
        unfold yx_kd
        rw [if_neg h3]
        repeat' split
        all_goals decide
      rw [yi_1319 hA, zq_cr, if_neg x21, if_pos y00, yi_1315 hA, zq_cr, if_neg x35, if_pos y00, yi_1331 hA, zq_cr, if_neg x25, if_pos y00, hkd, if_neg hk2, yy_name hA, zq_cr, if_neg x02, if_pos y00, m149]
      refine yr_i (a := yfl v n i σ) ?_ rfl (Or.inr ⟨rfl, fl3⟩)
      by_cases h8 : d = 8
      · rw [if_pos (d8.mpr h8), cfl]
      · rw [if_neg (fun e => h8 (d8.mp e)), zq_gr, if_neg h21, zq_gr, if_neg h35, if_neg h25, cfl]
/-- what a whole expression may change -/
def yfW (p c s0 : Nat) (σ σ' : zs_S) : Prop := (∀ o k, ¬ (o = 7 ∧ 5 ≤ k) → ¬ (o = p + 55 ∧ k = 3) → ¬ (o = p + 57 ∧ c ≤ k) → ¬ (o = p + 5 + s0 ∧ (k = 3 ∨ k = 4 ∨ k = 8)) → zs_i σ' o k = zs_i σ o k) ∧ (∀ o k, ¬ (o = 7 ∧ k = 6) → ¬ (o = p + 56 ∧ c ≤ k) → zs_r σ' o k = zs_r σ o k) ∧ (∀ o k, zs_l σ' o k = zs_l σ o k)
def yfV (q e s0 : Nat) (τ τ' : zs_S) : Prop := (∀ o k, ¬ (o = 1 ∧ 6 ≤ k ∧ k ≤ 14) → ¬ (o = q ∧ k = 12) → ¬ (o = q + 14 ∧ e ≤ k) → ¬ (o = q + 12 ∧ k = s0) → zs_i τ' o k = zs_i τ o k) ∧ (∀ o k, zs_r τ' o k = zs_r τ o k)
/-- the expression of the statement s0 -/
def yEx (σ τ : zs_S) (p q t V T s0 c c' e e' : Nat) (l : List (Nat × Int32)) : Prop := (zs_i σ (p + 5 + s0) 3 = nI c ∧ zs_i σ (p + 5 + s0) 4 = nI c' ∧ zs_i τ (q + 12) s0 = nI e ∧ c' ≤ 1600 ∧ e' ≤ 6400) ∧ yCl σ p l c c' ∧ yRw τ q (l.flatMap (ysp t) ++ [16]) e e' ∧ (∀ x, x ∈ l → yEl t V T x) ∧ yok l 0 1
def yWP (F : Nat) (v : Nat → Nat) (n m p q t V L T i s a c e s0 : Nat) (σ τ : zs_S) (r : Int32) (σ' τ' : zs_S) : Prop := (yfW p c s0 σ σ' ∧ yfV q e s0 τ τ') ∧ ((r = 1 ∧ ∃ i' a' c' e' l, (i < i' ∧ c ≤ c' ∧ e ≤ e') ∧ yN F v n m p q t V L T i' s a' c' e' σ' τ' ∧ yEx σ' τ' p q t V T s0 c c' e e' l ∧ zs_i σ' (p + 5 + s0) 8 = l.foldl yu1 0) ∨ (r = 0 ∧ ∃ f c', yK p (nI f) σ' ∧ zs_i τ' 1 11 = nI f ∧ f ≤ 1600 ∧ zs_i σ' (p + 55) 3 = nI c' ∧ c' ≤ 1600))
theorem yy_whole {i s a c e s0 : Nat} {σ τ : zs_S} (hF : 1700 < F) (h : yN F v n m p q t V L T i s a c e σ τ) (hs : s0 < 50) (he : e + 1 ≤ 2 * c + s) : yr (zf_Parser_readExpression F (p + 5 + s0) σ) (zf_M_whole F (nI s0) τ) (fun σ' r => yWP F v n m p q t V L T i s a c e s0 σ τ r.1 σ' r.2) := by
  obtain ⟨k1, k2, k3, k4, hA, hp2, hq2⟩ := yN_tok h
  have h0 := h
  obtain ⟨⟨h1, hp, hq⟩, h4, h5, ⟨h6, h7, h8⟩, ⟨h9, h9b, h9c⟩, ⟨h10, h10b⟩, ⟨h11, h11b⟩, h12⟩ := h
  have hm := yB_m h1
  obtain ⟨b1, b2, b3, b4, b5, b6, b7⟩ := h4
  have hN1 : yN F v n m p q t V L T i s a c e (zs_wi (zs_wi σ 7 10 0) (p + 5 + s0) 3 (nI c)) (zs_wi τ (q + 12) s0 (nI e)) := by
    refine ⟨⟨h1, hp, hq⟩, ⟨b1, b2, ?_, ?_, b5, b6, yx_rowsF b7 (fun k => rfl) (fun k => ?_) (fun k => rfl)⟩, yM_L h5 (fun k => ?_) (fun k _ _ => ?_) rfl, ⟨?_, ?_, h8⟩, ⟨?_, ?_, h9c⟩, ⟨?_, h10b⟩, ⟨?_, h11b⟩, yNm_F h12 (fun k => rfl) (fun k => ?_) ?_ ?_ rfl (fun o k x y => ?_) (fun o k x y => ?_)⟩
    all_goals simp (disch := omega) only [yt_in, yt_ie, yt_ir, yt_il, yt_ri, yt_rl, yt_rn, yt_re, yt_li, yt_lr, yt_ln, yt_le]
    all_goals assumption
  have ec1 : ∀ σ2, zf_Parser_readLevel (zf_Parser_readAtom F 10) F 7 0 0 (zs_wi (zs_wi σ 7 10 0) (p + 5 + s0) 3 (nI c)) = some σ2 → zs_r σ2 7 7 = p → zf_Parser_readExpression F (p + 5 + s0) σ = some (zs_wi (zs_wi σ2 (p + 5 + s0) 4 (zs_i σ2 (p + 55) 3)) (p + 5 + s0) 8 (zs_i σ2 7 10)) := by
    intro σ2 e1 pr
    have hc : zs_i (zs_wi σ 7 10 0) (p + 55) 3 = nI c := by
      rw [yt_in _ _ (by omega)]
      exact h10
    have h710 : zs_i (zs_wi σ2 (p + 5 + s0) 4 (zs_i σ2 (p + 55) 3)) 7 10 = zs_i σ2 7 10 := yt_in _ _ (by omega)
    unfold zf_Parser_readExpression
    simp (disch := omega) only [zq_v, yt_ri, b2, zq_qr, yp_k hp, zq_gr, yp_r8 hp, yp_k55 hp, yp_sk hp hs, hc, e1, zq_dr, pr, h710]
  have em1 : zf_M_whole F (nI s0) τ = zq_c (zf_M_either (zf_M_atom F 10) F 0 (zs_wi τ (q + 12) s0 (nI e))) fun r10 σ9 => if r10 = 0 then some (0, σ9) else zq_d (zf_M_put F 16 σ9) fun σ12 => some (1, σ12) := by
    unfold zf_M_whole
    simp (disch := omega) only [zq_v, h5.2.2.1, zq_qr, yv_k hq, zq_gr, yv_r9 hq, yv_k12 hq, yv_z12 hq, yn_b, nI_clamp, h11]
  obtain ⟨σ2, ⟨r, τ2⟩, e1, e2, hx⟩ := yx_either (N := 1) hF (yx_atom hF 10 0 (by omega) (by omega)) _ _ _ _ _ _ _ hN1
  have e2' : zf_M_either (zf_M_atom F 10) F 0 (zs_wi τ (q + 12) s0 (nI e)) = some (r, τ2) := e2
  rw [em1, e2', zq_cr]
  have hfC : ∀ σ3, yfC p c (zs_wi (zs_wi σ 7 10 0) (p + 5 + s0) 3 (nI c)) σ3 → ∀ x y, yfW p c s0 σ (zs_wi (zs_wi σ3 (p + 5 + s0) 4 x) (p + 5 + s0) 8 y) := by
    intro σ3 g x y
    refine ⟨fun o k x1 x2 x3 x4 => ?_, fun o k x1 x2 => ?_, fun o k => ?_⟩
    · rw [yt_in _ _ (by omega), yt_in _ _ (by omega), g.1 o k x1 x2 x3, yt_in _ _ (by omega), yt_in _ _ (by omega)]
    · rw [yt_ri, yt_ri, g.2.1 o k x1 x2, yt_ri, yt_ri]
    · rw [yt_li, yt_li, g.2.2 o k, yt_li, yt_li]
  have hfM : ∀ τ3, yfM q e (zs_wi τ (q + 12) s0 (nI e)) τ3 → yfV q e s0 τ τ3 := by
    intro τ3 g
    refine ⟨fun o k x1 x2 x3 x4 => ?_, fun o k => ?_⟩
    · rw [g.1 o k x1 x2 x3, yt_in _ _ (by omega)]
    · rw [g.2 o k, yt_ri]
  rcases hx with ⟨hr, i', a', c', e', l, g⟩ | ⟨hr, g⟩
  · have hr : r = 1 := hr
    subst hr
    obtain ⟨⟨g1, g2⟩, g3, g4, ⟨g5, g6⟩, g7, g8, g9⟩ := g
    have g9 : zs_i σ2 7 10 = l.foldl yu1 0 := by
      rw [g9, yt_in _ _ (by omega), yt_ie]
    have hp2' := g4.2.1
    obtain ⟨hc', hci'⟩ := g4.2.2.2.2.2.1
    obtain ⟨he', hee'⟩ := g4.2.2.2.2.2.2.1
    have hi' := g4.2.1.2.2.2.2.2.1
    obtain ⟨b1', b2', b3', b4', b5', b6', b7'⟩ := g4.2.1
    have hput := ym_put (F := F) (x := 16) hq g4.2.2.1.2.2.1 he' (by omega)
    have g2 : yfM q e (zs_wi τ (q + 12) s0 (nI e)) τ2 := g2
    have hput : zf_M_put F 16 τ2 = some (zs_wi (zs_wi τ2 (q + 14) e' 16) q 12 (nI (e' + 1))) := hput
    rw [if_neg y01, hput, zq_dr]
    have fM2 : yfM q e (zs_wi τ (q + 12) s0 (nI e)) (zs_wi (zs_wi τ2 (q + 14) e' 16) q 12 (nI (e' + 1))) := ⟨fun o k x1 x2 x3 => by rw [yt_in _ _ (by omega), yt_in _ _ (by omega), g2.1 o k x1 x2 x3], fun o k => by rw [yt_ri, yt_ri, g2.2 o k]⟩
    refine yr_i (ec1 σ2 e1 b2') rfl ⟨⟨hfC σ2 g1 _ _, hfM _ fM2⟩, Or.inl ⟨rfl, i', a', c', e' + 1, l, by omega, ?_, ⟨⟨?_, ?_, ?_, by omega, by omega⟩, ?_, ?_, g7, ?_⟩, ?_⟩⟩
    · obtain ⟨-, -, j5, ⟨j6, j7, j8⟩, ⟨j9, j9b, j9c⟩, -, -, j12⟩ := g4
      refine ⟨⟨h1, hp, hq⟩, ⟨b1', b2', ?_, ?_, b5', b6', yx_rowsF b7' (fun k => rfl) (fun k => ?_) (fun k => rfl)⟩, yM_L j5 (fun k => ?_) (fun k _ _ => ?_) rfl, ⟨?_, ?_, j8⟩, ⟨?_, ?_, j9c⟩, ⟨?_, hci'⟩, ⟨?_, by omega⟩, yNm_F j12 (fun k => rfl) (fun k => ?_) ?_ ?_ rfl (fun o k x y => ?_) (fun o k x y => ?_)⟩
      all_goals simp (disch := omega) only [yt_in, yt_ie, yt_ir, yt_il, yt_ri, yt_rl, yt_rn, yt_re, yt_li, yt_lr, yt_ln, yt_le]
      all_goals assumption
    · rw [yt_in _ _ (by omega), yt_in _ _ (by omega), g1.1 _ _ (by omega) (by omega) (by omega), yt_ie]
    · rw [yt_in _ _ (by omega), yt_ie, hc']
    · rw [fM2.1 _ _ (by omega) (by omega) (by omega), yt_ie]
    · exact yCl_F g5 (fun k k1 k2 => ⟨by rw [yt_ri, yt_ri], by rw [yt_in _ _ (by omega), yt_in _ _ (by omega)]⟩)
    · have g6 : yRw τ2 q (l.flatMap (ysp t)) e e' := g6
      refine yRw_a (c2 := e') (l2 := [16]) (d := e' + 1) ⟨?_, rfl⟩ (yRw_F g6 (fun k k1 k2 => ?_))
      · rw [yt_in _ _ (by omega), yt_ie]
      · rw [yt_in _ _ (by omega), yt_in _ _ (by omega)]
    · exact g8 0 (by have := g4.2.2.2.2.1.2.2; omega)
    · rw [yt_ie, g9]
  · have hr : r = 0 := hr
    subst hr
    obtain ⟨⟨g1, g2⟩, f, c', g3, g4, g5, g6, g7, g8⟩ := g
    rw [if_pos y00]
    refine yr_i (ec1 σ2 e1 g3.2.1) rfl ⟨⟨hfC σ2 g1 _ _, hfM _ g2⟩, Or.inr ⟨rfl, f, c', yK_F g3 (fun k => ?_) (fun k => ?_), g4, g5, ?_, g8⟩⟩
    · rw [yt_in _ _ (by omega), yt_in _ _ (by omega)]
    · rw [yt_ri, yt_ri]
    · rw [yt_in _ _ (by omega), yt_in _ _ (by omega), g6]
end YXA
