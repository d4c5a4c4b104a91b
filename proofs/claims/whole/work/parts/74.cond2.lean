/-! conditions: their blocks -/
section YCB
variable {F n m p q t V L T : Nat} {v : Nat → Nat}
/-- there are such ways -/
theorem yEq_ex {par K : Int32} {lo : Nat} {σ : zs_S} : ∀ hi, hi ≤ 50 → (∀ x, lo ≤ x → x < hi → zs_i σ (p + 5 + x) 1 = par ∨ ∃ y, lo ≤ y ∧ y < x ∧ zs_i σ (p + 5 + x) 1 = nI y) → ∃ g, yEq σ p par K g lo hi := by
  intro hi
  induction hi with
  | zero => intro _ _; exact ⟨fun _ _ => 0, fun x _ h => by omega⟩
  | succ hi ih =>
    intro h50 hD
    obtain ⟨g, hg⟩ := ih (by omega) (fun x x1 x2 => hD x x1 (by omega))
    have key : ∀ (y0 y1 y2 : Int32) x, lo ≤ x → x < hi + 1 → yBh σ p par K (fun z w => if z = hi then (if w = 0 then y0 else if w = 1 then y1 else y2) else g z w) (zs_i σ (p + 5 + x) 1) = yBh σ p par K g (zs_i σ (p + 5 + x) 1) := by
      intro y0 y1 y2 x x1 x2
      unfold yBh
      rcases hD x x1 x2 with e | ⟨y, a1, a2, a3⟩
      · rw [if_pos e, if_pos e]
      · have hyh : ¬ y = hi := by omega
        rw [a3, nI_clamp (by omega)]
        simp only [if_neg hyh]
    refine ⟨fun z w => if z = hi then (if w = 0 then (if zs_i σ (p + 5 + hi) 7 = -2 then yBh σ p par K g (zs_i σ (p + 5 + hi) 1) else zs_i σ (p + 5 + hi) 7) else if w = 1 then (if zs_i σ (p + 5 + hi) 5 = -2 then (if zs_r σ (p + 5 + hi) 0 = 1108 then nI hi else (if zs_i σ (p + 5 + hi) 7 = -2 then yBh σ p par K g (zs_i σ (p + 5 + hi) 1) else zs_i σ (p + 5 + hi) 7)) else zs_i σ (p + 5 + hi) 5) else (if zs_i σ (p + 5 + hi) 6 = -2 then (if zs_i σ (p + 5 + hi) 7 = -2 then yBh σ p par K g (zs_i σ (p + 5 + hi) 1) else zs_i σ (p + 5 + hi) 7) else zs_i σ (p + 5 + hi) 6)) else g z w, fun x x1 x2 => ?_⟩
    by_cases hx : x = hi
    · subst hx
      refine ⟨?_, ?_, ?_⟩
      · rw [key _ _ _ x x1 x2]
        simp only [reduceIte]
      · simp only [reduceIte]
        rfl
      · simp only [reduceIte]
        rfl
    · obtain ⟨a1, a2, a3⟩ := hg x x1 (by omega)
      refine ⟨?_, ?_, ?_⟩
      · rw [key _ _ _ x x1 x2]
        simp only [if_neg hx]
        exact a1
      · simp only [if_neg hx]
        exact a2
      · simp only [if_neg hx]
        exact a3
theorem y3 {x w x' w' : Nat} (hw : w < 3) (hw' : w' < 3) (hx : x < 50) (hx' : x' < 50) (h : nI (3 * x + w) = nI (3 * x' + w')) : x = x' ∧ w = w' := by
  have := (nI_eq (by omega) (by omega)).mp h
  omega
theorem yvl_f {k w : Nat} (h : yVl k w) (hk : k = 1107 ∨ k = 1108) : w = 1 ∨ w = 2 := by
  rcases h with ⟨-, h1, h2, -⟩ | ⟨h1, -⟩
  · omega
  · exact h1
theorem ykd_cond {i s a c e fr kc N d : Nat} {par : Int32} {σ τ : zs_S} {kR : Int32 → Int32 → zs_S → Option (Int32 × zs_S)} (h : yPr F v n m p q t V L T i s a c e fr par σ τ) (hkc : (yx_c v n i = 1015 ∧ kc = 7) ∨ (yx_c v n i = 1017 ∧ kc = 8)) (hd : d ≤ 6) (hK : d < 6 → yBR F v n m p q t V L T (d + 1) (zf_Parser_readStatements F (N + 1)) kR) : yr (zf_Parser_readCondition (zf_Parser_readStatements F (N + 1)) F (p + 5 + s) (1100 + kc) (nI d) σ) (zf_M_statement kR F (nI s) (nI d) τ) (fun σ' r => yKD F v n m p q t V L T i s c e fr par σ τ r.1 σ' r.2) := by
  have h0 := h
  obtain ⟨hN, ⟨he, hfr, hs, hF⟩, hop, o1, o5, o6, o7, o8⟩ := h
  have hp := hN.1.2.1
  have hq := hN.1.2.2
  have hp2 := yPP_b hp
  have hq2 := yQQ_b hq
  rcases ykd_head (x2 := nI d) (N := N) (kS := kR) h0 hkc with ⟨σ', τ', e1, e2, hf⟩ | ⟨i1, a1, c1, e1, l, σ1, τ1, ec, em, hN1, hcnt, ⟨fS1, fT1⟩, ⟨hop1, hoth⟩, hob, hkr, hkk, hEx, hus⟩
  · exact yr_i e1 e2 (Or.inr ⟨rfl, hf⟩)
  rw [ec, em]
  have n31 : ∀ w : Nat, 3 * nI s + nI w = nI (3 * s + w) := fun w => by rw [yn_3, nI_add]
  have hN2 : yN F v n m p q t V L T i1 (s + 1) a1 c1 e1 σ1 (yps τ1 fr (3 * s + 1)) := yN_o hN1 (fun o k x => rfl) (fun o k x => rfl) (fun o k => rfl) (fun o k x y z => yps_i x (by omega)) (fun o k => rfl)
  have hq1 : yBq F v n m p q t V L T i1 (s + 1) a1 c1 e1 fr (nI s) (nI (3 * s + 1)) σ1 (yps τ1 fr (3 * s + 1)) := ⟨hN2, ⟨by omega, hF⟩, yps_o, yps_e, Or.inl ⟨3 * s + 1, by omega, rfl⟩, Or.inr ⟨s, by omega, rfl⟩⟩
  obtain ⟨ent, σ3, r, τ3, b1, b2, hb⟩ := yx_blk hq1 hd hK
  have fT2 : yfT q s e τ (yps τ1 fr (3 * s + 1)) := yfT_t fT1 ⟨fun o k _ _ _ _ _ => yps_i (by omega) (by omega), fun o k => rfl⟩ (Nat.le_refl s) (Nat.le_refl e)
  have mB : ymB kR F (nI s) (nI d) τ1 = if r = 0 then some (0, τ3) else zq_q (zs_r τ3 1 12) fun q133 => zq_g (zq_k 1 q133 19) <| zq_q (zd_rf 1 q133 7) fun q135 => zq_g (zq_k 1 q135 0) <| zq_g (zq_b (nI s) (zd_sh 1 q135).2) <| if (zs_i τ3 q135 (nI s).toNatClampNeg) = 8 then zq_d (zf_M_lead F (nI fr) (nI s) τ3) fun σ138 => zf_M_statement_131 kR F (nI s) (nI d) σ138 else zf_M_statement_131 kR F (nI s) (nI d) τ3 := by
    unfold ymB
    rw [hop1, yq_v, nI_1, yq_v, yn_b (show fr < 200 by omega) (by decide), yq_g, nI_clamp (by omega), show 3 * nI s + 1 = nI (3 * s + 1) from n31 1, yq_v]
    show zq_c (zf_M_block kR F (nI d) (yps τ1 fr (3 * s + 1))) _ = _
    rw [b2, yq_c]
  rw [mB]
  unfold ycB
  rw [b1, yq_c, yq_v]
  rcases Or.symm hb with ⟨hr, g1, g2, f, g3, g4, g5⟩ | ⟨hr, i3, s3, a3, c3, e3, op3, hN3, hi13, ⟨⟨m1, m2, m3, m4, m5, m6, m7⟩, ⟨fS3, fT3⟩, ⟨ld1, ld2, ld3⟩, hrow, hflow⟩, hent⟩
  · subst hr
    rw [if_pos y00]
    have hk5 : yK p (nI f) (zs_wi σ3 (p + 5 + s) 5 ent) := yK_F g4 (fun k => yt_in _ _ (by omega)) (fun k => rfl)
    refine yr_i (a := zs_wi σ3 (p + 5 + s) 5 ent) ?_ rfl (Or.inr ⟨rfl, ygC_t (ygC_S hp fS1) (ygC_t g1 ⟨fun o k x y => ⟨yt_in _ _ (by omega), rfl, rfl⟩, rfl, rfl⟩), ygM_t (ygM_T fT2) g2, f, g3, hk5, g5⟩)
    unfold ycT zf_Parser_readCondition_82
    rw [yn_12 (by omega), yq_g, hk5.2.2.2.2, zq_qr (by decide), yn_12 (by decide), yq_g]
    by_cases h7 : 1100 + kc = 1107
    · rw [if_pos h7, if_neg (by decide)]
    · rw [if_neg h7]
  subst hr
  have hs3 : s3 ≤ 50 := hN3.2.2.2.1.2.2
  have hkk3 : zs_i τ3 (q + 10) s = nI kc := by rw [fT3.1 _ _ (by omega) (by omega) (by omega) (by omega) (by omega), yps_i (by omega) (by omega), hkk]
  have hob3 : ∀ k, zs_i σ3 (p + 5 + s) k = zs_i σ1 (p + 5 + s) k := fun k => fS3.1 _ _ (by omega) (by omega) (by omega) (by omega) (by omega)
  have hkr3 : zs_r σ3 (p + 5 + s) 0 = 1100 + kc := (fS3.2.1 _ _ (by omega) (by omega) (by omega)).trans hkr
  rw [if_neg y01, hN3.2.2.1.2.2.1, zq_qr (by omega), yv_k hq, yq_g, yv_r7 hq, zq_qr (by omega), yv_k10 hq, yq_g, yv_z10 hq, yn_b hs (by decide), yq_g, nI_clamp (by omega), hkk3]
  -- the class's statement s, behind the first block
  have hN4 : yN F v n m p q t V L T i3 s3 a3 c3 e3 (zs_wi σ3 (p + 5 + s) 5 ent) τ3 := yN_o hN3 (fun o k x => yt_in _ _ (by omega)) (fun o k x => rfl) (fun o k => rfl) (fun o k x y z => rfl) (fun o k => rfl)
  have fS4 : yfS p s c σ (zs_wi σ3 (p + 5 + s) 5 ent) := yfS_t fS1 (yfS_t (show yfS p s c σ1 σ3 from ⟨fun o k x y z w u => fS3.1 o k x y (by omega) w (by omega), fun o k x y z => fS3.2.1 o k x (by omega) (by omega), fS3.2.2⟩) ⟨fun o k _ _ _ _ _ => yt_in _ _ (by omega), fun o k _ _ _ => rfl, fun o k => rfl⟩ (Nat.le_refl s) (Nat.le_refl c)) (Nat.le_refl s) (Nat.le_refl c)
  have fT4 : yfT q s e τ τ3 := yfT_t fT2 (show yfT q s e _ τ3 from ⟨fun o k x y z w u => fT3.1 o k x y z (by omega) (by omega), fT3.2⟩) (Nat.le_refl s) (Nat.le_refl e)
  have hob4 : ∀ k, k = 1 ∨ k = 6 ∨ k = 7 → zs_i (zs_wi σ3 (p + 5 + s) 5 ent) (p + 5 + s) k = zs_i σ (p + 5 + s) k := fun k hk => by rw [yt_in _ _ (by omega), hob3, hob k (by omega)]
  have hoc4 : ∀ x k, s < x → x < 50 → zs_i (zs_wi σ3 (p + 5 + s) 5 ent) (p + 5 + x) k = zs_i σ3 (p + 5 + x) k := fun x k hx _ => yt_in _ _ (by omega)
  have hin : yIn ent (s + 1) s3 := by
    rcases hent with ⟨-, h2⟩ | ⟨h1, h2⟩
    · exact Or.inl h2
    · exact Or.inr ⟨s + 1, by omega, h1, h2⟩
  have hEx3 : yEx σ3 τ3 p q t V T s c c1 e e1 l := yEx_F hEx (Nat.le_refl _) (Nat.le_refl _) (fun k _ => hob3 k) (fun k hk => ⟨fS3.2.1 _ _ (by omega) (by omega) (by omega), fS3.1 _ _ (by omega) (by omega) (by omega) (by omega) (by omega)⟩) (by rw [fT3.1 _ _ (by omega) (by omega) (by omega) (by omega) (by omega), yps_i (by omega) (by omega)]) (fun k hk => by rw [fT3.1 _ _ (by omega) (by omega) (by omega) (by omega) (by omega), yps_i (by omega) (by omega)])
  have hSs : yST σ3 τ3 p q t V L T c3 e3 s := ⟨kc, by omega, hkr3, hkk3, fun k => by omega, fun k => by omega, fun _ => ⟨c, c1, e, e1, l, by omega, by omega, hEx3, by rw [hob3]; exact hus⟩, fun k => by omega⟩
  have hS3 : ∀ x, s ≤ x → x < s3 → yST σ3 τ3 p q t V L T c3 e3 x := fun x x1 x2 => by
    by_cases hx : x = s
    · subst hx
      exact hSs
    · exact (hrow x (by omega) x2).1
  have hS4 : ∀ x, s ≤ x → x < s3 → yST (zs_wi σ3 (p + 5 + s) 5 ent) τ3 p q t V L T c3 e3 x := fun x x1 x2 => yST_F (hS3 x x1 x2) (Nat.le_refl _) (Nat.le_refl _) (fun k hk => yt_in _ _ (by omega)) rfl (fun k hk => ⟨rfl, yt_in _ _ (by omega)⟩) (fun o ho => rfl) (fun k hk => rfl)
  -- the open pointers of the first block have their shape
  have hsh : ∀ j, fr ≤ j → j < op3 → (s3 = s + 1 ∧ j = fr ∧ zs_i τ3 57 j = nI (3 * s + 1)) ∨ (s + 1 < s3 ∧ ∃ x w, w < 3 ∧ s + 1 ≤ x ∧ x < s3 ∧ zs_i τ3 57 j = nI (3 * x + w)) := by
    intro j j1 j2
    by_cases hss : s3 = s + 1
    · obtain ⟨l1, l2, -, -⟩ := ld2 hss
      have : j = fr := by omega
      subst this
      exact Or.inl ⟨hss, rfl, l2.trans yps_e⟩
    · obtain ⟨g, hg⟩ := yEq_ex (K := 0) s3 hs3 (fun x x1 x2 => (hrow x x1 x2).2.1)
      obtain ⟨x, w, w1, x1, x2, x3, -⟩ := (hflow (by omega) g 0 hg).1 j j1 j2
      exact Or.inr ⟨by omega, x, w, w1, x1, x2, x3⟩
  have hto3 : ∀ k, k < 3 * s → zs_i τ3 (q + 13) k = zs_i τ (q + 13) k := by
    intro k hk
    have h1 : zs_i (yps τ1 fr (3 * s + 1)) (q + 13) k = zs_i τ (q + 13) k := by rw [yps_i (by omega) (by omega), hoth _ _ (by omega)]
    by_cases hss : s3 = s + 1
    · rw [(ld2 hss).2.2.1 k, h1]
    · rw [(ld3 (by omega)).1 k (by omega) (fun e => by have := (nI_eq (by omega) (by omega)).mp e; omega), h1]
  have hst3 : ∀ y, y < 4 → zs_i τ3 (q + 9) y = zs_i τ (q + 9) y := by
    intro y hy
    have h1 : zs_i (yps τ1 fr (3 * s + 1)) (q + 9) y = zs_i τ (q + 9) y := by rw [yps_i (by omega) (by omega), hoth _ _ (by omega)]
    by_cases hss : s3 = s + 1
    · rw [(ld2 hss).2.2.2 y, h1]
    · rw [(ld3 (by omega)).2.2.1 y hy (yn_neg2 hy (by omega)), h1]
  have hto1 : s + 1 < s3 → zs_i τ3 (q + 13) (3 * s + 1) = nI (s + 1) := fun hss => (ld3 hss).2.1 (3 * s + 1) (by omega) rfl
  have hpo3 : ∀ j, j < fr → zs_i τ3 57 j = zs_i τ 57 j := fun j hj => by rw [ld1 j hj, yps_i (by omega) (by omega), hoth _ _ (by omega)]
  -- the equations of the first block, seen from a later store
  have heq3 : ∀ σ' g K, (∀ x k, s < x → x < s3 → zs_i σ' (p + 5 + x) k = zs_i σ3 (p + 5 + x) k) → (∀ x, s < x → x < s3 → zs_r σ' (p + 5 + x) 0 = zs_r σ3 (p + 5 + x) 0) → yEq σ' p (nI s) K g (s + 1) s3 → yEq σ3 p (nI s) K g (s + 1) s3 := fun σ' g K w1 w2 w3 => yEq_F (fun x x1 x2 => (hrow x x1 x2).2.1) hs3 (fun x k x1 x2 _ => w1 x k (by omega) x2) (fun x x1 x2 => w2 x (by omega) x2) w3
  have hD4 : ∀ x, s < x → x < s3 → yD2 (zs_wi σ3 (p + 5 + s) 5 ent) p (nI s) (s + 1) s3 x := by
    intro x x1 x2
    obtain ⟨d1, d2, d3, d4⟩ := (hrow x (by omega) x2).2
    refine ⟨?_, ?_, ?_, ?_⟩
    · rw [hoc4 x 1 x1 (by omega)]
      exact d1
    · rw [hoc4 x 5 x1 (by omega)]
      exact d2
    · rw [hoc4 x 6 x1 (by omega)]
      exact d3
    · rw [hoc4 x 7 x1 (by omega)]
      exact d4
  have m2' : zs_i (zs_wi σ3 (p + 5 + s) 5 ent) (p + 5 + s) 6 = -2 := (hob4 6 (by omega)).trans o6
  have y22 : ∀ y, y < 50 → ¬ nI y = -2 := fun y hy => yn_ne2 (by omega)
  by_cases hw : kc = 8
  · -- while
    subst hw
    rw [if_pos (show nI 8 = (8 : Int32) from rfl)]
    obtain ⟨τ4, t1, t2, t3, t4, t5, t6, t7, t8⟩ := ym_lead (F := F) (x := nI s) (fr := fr) hq 200 F op3 τ3 (by omega) m5 (by omega) (by omega) hN3.2.2.1.2.2.1 m7 (fun j j1 j2 => by
      rcases hsh j j1 j2 with ⟨-, -, x3⟩ | ⟨-, x, w, w1, x1, x2, x3⟩
      · exact Or.inl ⟨_, by omega, x3⟩
      · exact Or.inl ⟨_, by omega, x3⟩)
    have elead : zf_M_lead F (nI fr) (nI s) τ3 = some τ4 := t1
    have e131 : zf_M_statement_131 kR F (nI s) (nI d) τ4 = some (1, yps τ4 fr (3 * s + 2)) := by
      unfold zf_M_statement_131 zf_M_statement_185
      rw [t8, hN3.2.2.1.2.2.1, zq_qr (by omega), yv_k hq, yq_g, yv_r7 hq, zq_qr (by omega), yv_k10 hq, yq_g, yv_z10 hq, yn_b hs (by decide), yq_g, nI_clamp (by omega), t7 _ _ (by omega) (by omega) (by omega), hkk3, if_neg (by decide), t2, nI_1, yq_v, yn_b (show fr < 200 by omega) (by decide), yq_g, nI_clamp (by omega), show 3 * nI s + 2 = nI (3 * s + 2) from n31 2, yq_v]
      rfl
    rw [elead, yq_s, e131]
    have eT : ycT (zf_Parser_readStatements F (N + 1)) F (p + 5 + s) (1100 + 8) (nI s) (nI d) (zs_wi σ3 (p + 5 + s) 5 ent) = some (zs_wi σ3 (p + 5 + s) 5 ent) := by
      unfold ycT zf_Parser_readCondition_82
      rw [yn_12 (by decide), yq_g, if_neg (by decide)]
    rw [eT]
    have hpn : ∀ k, k < 3 * s → ¬ ∃ j, fr ≤ j ∧ j < op3 ∧ zs_i τ3 57 j = nI k := by
      intro k hk ⟨j, j1, j2, j3⟩
      rcases hsh j j1 j2 with ⟨-, -, x3⟩ | ⟨-, x, w, w1, x1, x2, x3⟩
      · have := (nI_eq (by omega) (by omega)).mp (j3.symm.trans x3)
        omega
      · have := (nI_eq (by omega) (by omega)).mp (j3.symm.trans x3)
        omega
    have hpy : ∀ y, y < 4 → ¬ ∃ j, fr ≤ j ∧ j < op3 ∧ zs_i τ3 57 j = -1 - nI y := by
      intro y hy ⟨j, j1, j2, j3⟩
      rcases hsh j j1 j2 with ⟨-, -, x3⟩ | ⟨-, x, w, w1, x1, x2, x3⟩
      · exact yn_neg2 hy (by omega) (x3.symm.trans j3)
      · exact yn_neg2 hy (by omega) (x3.symm.trans j3)
    have hto4 : ∀ k, zs_i (yps τ4 fr (3 * s + 2)) (q + 13) k = zs_i τ4 (q + 13) k := fun k => yps_i (by omega) (by omega)
    refine yr_i rfl rfl (Or.inl ⟨rfl, i3, s3, a3, c3, e3, fr + 1, ?_, ⟨by omega, by omega, by omega, by omega, by omega, by omega, yps_o⟩, ⟨fS4, ?_⟩, ⟨fun k hk => ?_, fun y hy => ?_, fun j hj => ?_⟩, ⟨(hob4 1 (by omega)).trans o1, (hob4 7 (by omega)).trans o7⟩, fun x x1 x2 => ?_, ⟨by rw [yt_ie]; exact hin, Or.inl m2'⟩, hD4, fun g g1 g2 => ⟨fun j j1 j2 => ?_, fun x w x1 x2 w1 vl => ?_⟩⟩)
    · exact yN_o hN4 (fun o k x => rfl) (fun o k x => rfl) (fun o k => rfl) (fun o k x y z => by show zs_i (yps τ4 fr (3 * s + 2)) o k = _; rw [yps_i x (by omega), t7 _ _ x (by omega) (by omega)]) (fun o k => t8 o k)
    · exact yfT_t fT4 ⟨fun o k x y z w u => by show zs_i (yps τ4 fr (3 * s + 2)) o k = _; rw [yps_i (by omega) (by omega), t7 _ _ (by omega) (by omega) (by omega)], fun o k => t8 o k⟩ (Nat.le_refl s) (Nat.le_refl e)
    · show zs_i (yps τ4 fr (3 * s + 2)) (q + 13) k = _
      rw [hto4, t4 k (by omega) (hpn k hk), hto3 k hk]
    · show zs_i (yps τ4 fr (3 * s + 2)) (q + 9) y = _
      rw [yps_i (by omega) (by omega), t6 y hy (hpy y hy), hst3 y hy]
    · show zs_i (yps τ4 fr (3 * s + 2)) 57 j = _
      rw [yps_i (by omega) (by omega), t7 _ _ (by omega) (by omega) (by omega), hpo3 j hj]
    · exact yST_F (hS4 x x1 x2) (Nat.le_refl _) (Nat.le_refl _) (fun k hk => rfl) rfl (fun k hk => ⟨rfl, rfl⟩) (fun o ho => by show zs_i (yps τ4 fr (3 * s + 2)) o x = _; rw [yps_i (by omega) (by omega), t7 _ _ (by omega) (by omega) (by omega)]) (fun k hk => by show zs_i (yps τ4 fr (3 * s + 2)) (q + 14) k = _; rw [yps_i (by omega) (by omega), t7 _ _ (by omega) (by omega) (by omega)])
    · have : j = fr := by omega
      subst this
      refine ⟨s, 2, by omega, by omega, by omega, yps_e, ?_⟩
      rw [g1.2, if_pos m2']
    · have hkr4 : zs_r (zs_wi σ3 (p + 5 + s) 5 ent) (p + 5 + s) 0 = 1108 := hkr3
      rw [if_pos hkr4] at g2
      have vl : yVl (zs_r σ3 (p + 5 + x) 0) w := vl
      by_cases hxs : x = s
      · subst hxs
        rcases yvl_f vl (Or.inr hkr3) with hw | hw
        · subst hw
          refine Or.inr ?_
          show zs_i (yps τ4 fr (3 * x + 2)) (q + 13) (3 * x + 1) = _
          rw [hto4, g1.1, yt_ie, if_pos hkr4]
          rcases hent with ⟨h1, h2⟩ | ⟨h1, h2⟩
          · rw [if_pos h2, t3 (3 * x + 1) (by omega) ⟨fr, by omega, by have := (ld2 h1).1; omega, (ld2 h1).2.1.trans yps_e⟩]
          · rw [h2, if_neg (y22 _ (by omega)), t4 (3 * x + 1) (by omega) (fun ⟨j, j1, j2, j3⟩ => by
              rcases hsh j j1 j2 with ⟨q1, -, -⟩ | ⟨-, x', w', q2, q3, q4, q5⟩
              · omega
              · have := (nI_eq (by omega) (by omega)).mp (j3.symm.trans q5)
                omega), hto1 h1]
        · subst hw
          exact Or.inl ⟨fr, by omega, by omega, yps_e⟩
      · refine Or.inr ?_
        show zs_i (yps τ4 fr (3 * s + 2)) (q + 13) (3 * x + w) = _
        rw [hto4]
        have hE3 := heq3 _ g (nI s) (fun x k x1 x2 => hoc4 x k x1 (by omega)) (fun x x1 x2 => rfl) g2
        obtain ⟨u1, u2⟩ := hflow (by omega) g (nI s) hE3
        by_cases hpd : ∃ j, fr ≤ j ∧ j < op3 ∧ zs_i τ3 57 j = nI (3 * x + w)
        · rw [t3 (3 * x + w) (by omega) hpd]
          obtain ⟨j, j1, j2, j3⟩ := hpd
          obtain ⟨x', w', v1, v2, v3, v4, v5⟩ := u1 j j1 j2
          obtain ⟨rfl, rfl⟩ := y3 w1 v1 (by omega) (by omega) (j3.symm.trans v4)
          exact v5.symm
        · rw [t4 (3 * x + w) (by omega) hpd]
          rcases u2 x w (by omega) x2 w1 vl with hh | hh
          · exact absurd hh hpd
          · exact hh
  · -- if
    have hk7 : kc = 7 := by
      rcases hkc with ⟨-, h7⟩ | ⟨-, h7⟩
      · exact h7
      · exact absurd h7 hw
    subst hk7
    rw [if_neg (show ¬ nI 7 = (8 : Int32) by decide)]
    obtain ⟨n1, n2, n3, n4, hA3, -, -⟩ := yN_tok hN3
    have hop3 : op3 ≤ 2 * s3 := by omega
    have hpl1 : ∀ g, zs_r (zs_wi σ3 (p + 5 + s) 5 ent) (p + 5 + s) 0 = 1107 → (g s 1 = (if ent = -2 then g s 0 else ent)) → yEq σ3 p (nI s) (g s 0) g (s + 1) s3 → (∀ j, fr ≤ j → j < op3 → ∃ x w, w < 3 ∧ s ≤ x ∧ x < s3 ∧ zs_i τ3 57 j = nI (3 * x + w) ∧ g x w = g s 0) ∧ ((∃ j, fr ≤ j ∧ j < op3 ∧ zs_i τ3 57 j = nI (3 * s + 1)) ∨ (s + 1 < s3 ∧ zs_i τ3 (q + 13) (3 * s + 1) = g s 1)) ∧ (∀ x w, s < x → x < s3 → w < 3 → yVl (zs_r σ3 (p + 5 + x) 0) w → (∃ j, fr ≤ j ∧ j < op3 ∧ zs_i τ3 57 j = nI (3 * x + w)) ∨ zs_i τ3 (q + 13) (3 * x + w) = g x w) := by
      intro g hk7 hg1 hE
      refine ⟨fun j j1 j2 => ?_, ?_, fun x w x1 x2 w1 vl => ?_⟩
      · rcases hsh j j1 j2 with ⟨z1, z2, z3⟩ | ⟨z1, -⟩
        · rcases hent with ⟨h1, h2⟩ | ⟨h1, h2⟩
          · rw [h2, if_pos rfl] at hg1
            exact ⟨s, 1, by omega, by omega, by omega, z3, hg1⟩
          · omega
        · obtain ⟨x, w, w1, x1, x2, x3, x4⟩ := (hflow z1 g _ hE).1 j j1 j2
          exact ⟨x, w, w1, by omega, x2, x3, x4⟩
      · rcases hent with ⟨h1, h2⟩ | ⟨h1, h2⟩
        · exact Or.inl ⟨fr, by omega, by have := (ld2 h1).1; omega, (ld2 h1).2.1.trans yps_e⟩
        · refine Or.inr ⟨h1, ?_⟩
          rw [hto1 h1, hg1, h2, if_neg (y22 _ (by omega))]
      · exact (hflow (by omega) g _ hE).2 x w (by omega) x2 w1 vl
    have hN5 := hN4
    unfold ycT zf_M_statement_131 zf_M_statement_185 zf_Parser_readCondition_82
    rw [yn_12 (by decide), yq_g, if_pos (show 1100 + 7 = 1107 from rfl), hN4.2.1.2.2.2.2.1, zq_qr (by omega), yn_12 (by omega), yq_g, hN3.2.2.1.2.2.1, zq_qr (by omega), yv_k hq, yq_g, yv_r7 hq, zq_qr (by omega), yv_k10 hq, yq_g, yv_z10 hq, yn_b hs (by decide), yq_g, nI_clamp (by omega), hkk3, if_pos (show nI 7 = (7 : Int32) from rfl), yi_1311 hA3, yq_c]
    by_cases hel : yx_c v n i3 = 1016
    · have hi3 := yB_lt hN3.1.1 n4 (by omega) (by omega)
      obtain ⟨τ4, p1, p2, hN6, fa, fb, -⟩ := yN_st hN4 hi3
      have hop4 : zs_i τ4 1 16 = nI op3 := (fb.1 _ _ (by omega)).trans m7
      have hN7 : yN F v n m p q t V L T (i3 + 1) s3 a3 c3 e3 (yadv v n i3 (zs_wi σ3 (p + 5 + s) 5 ent)) (yps τ4 op3 (3 * s + 2)) := yN_o hN6 (fun o k x => rfl) (fun o k x => rfl) (fun o k => rfl) (fun o k x y z => yps_i x (by omega)) (fun o k => rfl)
      have hqq : yBq F v n m p q t V L T (i3 + 1) s3 a3 c3 e3 op3 (nI s) (nI (3 * s + 2)) (yadv v n i3 (zs_wi σ3 (p + 5 + s) 5 ent)) (yps τ4 op3 (3 * s + 2)) := ⟨hN7, ⟨hop3, hF⟩, yps_o, yps_e, Or.inl ⟨3 * s + 2, by omega, rfl⟩, Or.inr ⟨s, by omega, rfl⟩⟩
      obtain ⟨ent2, σ6, r2, τ6, b3, b4, hb2⟩ := yx_blk hqq hd hK
      rw [if_pos hel, if_pos (show (yx_tk v n (yx_ps v n i3)).1 = 1016 from hel), if_neg y01, p1, yq_s, p2, yq_s, b3, yq_c, yq_v, hop4, nI_1, yq_v, yn_b (show op3 < 200 by omega) (by decide), yq_g, nI_clamp (by omega), show 3 * nI s + 2 = nI (3 * s + 2) from n31 2, yq_v]
      have b4' : zf_M_block kR F (nI d) (zs_wi (zs_wi τ4 1 16 (nI (op3 + 1))) 57 op3 (nI (3 * s + 2))) = some (r2, τ6) := b4
      rw [b4', yq_c]
      have hti5 : ∀ o k, ¬ (o = 1 ∧ 6 ≤ k ∧ k ≤ 16) → ¬ (o = 57 ∧ k = op3) → zs_i (yps τ4 op3 (3 * s + 2)) o k = zs_i τ3 o k := fun o k w1 w2 => by rw [yps_i (by omega) w2, fb.1 _ _ (by omega)]
      have fT5 : yfT q s3 e3 τ3 (yps τ4 op3 (3 * s + 2)) := ⟨fun o k x y z w u => hti5 o k x (by omega), fun o k => fb.2 o k⟩
      rcases Or.symm hb2 with ⟨hr, g1, g2, f, g3, g4, g5⟩ | ⟨hr, i6, s6, a6, c6, e6, op6, hN8, hi68, ⟨⟨w1, w2, w3, w4, w5, w6, w7⟩, ⟨fS6, fT6⟩, ⟨le1, le2, le3⟩, hrow2, hflow2⟩, hent2⟩
      · subst hr
        rw [yz_0, yq_g]
        have hk5 : yK p (nI f) (zs_wi σ6 (p + 5 + s) 6 ent2) := yK_F g4 (fun k => yt_in _ _ (by omega)) (fun k => rfl)
        exact yr_i rfl rfl (Or.inr ⟨rfl, ygC_t (ygC_S hp fS4) (ygC_t (ygC_C fa hp) (ygC_t g1 ⟨fun o k x y => ⟨yt_in _ _ (by omega), rfl, rfl⟩, rfl, rfl⟩)), ygM_t (ygM_T fT4) (ygM_t (ygM_T fT5) g2), f, g3, hk5, g5⟩)
      · subst hr
        rw [yz_1, yq_g]
        have hs6 : s6 ≤ 50 := hN8.2.2.2.1.2.2
        have fS46 : yfS p s3 c3 (zs_wi σ3 (p + 5 + s) 5 ent) σ6 := yfS_t (yfS_C fa) fS6 (Nat.le_refl s3) (Nat.le_refl c3)
        have fT46 : yfT q s3 e3 τ3 τ6 := yfT_t fT5 fT6 (Nat.le_refl s3) (Nat.le_refl e3)
        have ho6 : ∀ x k, x < s3 → zs_i σ6 (p + 5 + x) k = zs_i (zs_wi σ3 (p + 5 + s) 5 ent) (p + 5 + x) k := fun x k hx => fS46.1 _ _ (by omega) (by omega) (by omega) (by omega) (by omega)
        have hr6 : ∀ x, x < s3 → zs_r σ6 (p + 5 + x) 0 = zs_r σ3 (p + 5 + x) 0 := fun x hx => fS46.2.1 _ _ (by omega) (by omega) (by omega)
        have hob7 : ∀ k, k = 1 ∨ k = 7 → zs_i (zs_wi σ6 (p + 5 + s) 6 ent2) (p + 5 + s) k = zs_i σ (p + 5 + s) k := fun k hk => by rw [yt_in _ _ (by omega), ho6 s k (by omega), hob4 k (by omega)]
        have hob75 : zs_i (zs_wi σ6 (p + 5 + s) 6 ent2) (p + 5 + s) 5 = ent := by rw [yt_in _ _ (by omega), ho6 s 5 (by omega), yt_ie]
        have hto6 : ∀ k, k < 3 * s3 → k ≠ 3 * s + 2 → zs_i τ6 (q + 13) k = zs_i τ3 (q + 13) k := by
          intro k hk hk2
          by_cases hss : s6 = s3
          · rw [(le2 hss).2.2.1 k, hti5 _ _ (by omega) (by omega)]
          · rw [(le3 (by omega)).1 k (by omega) (fun e => by have := (nI_eq (by omega) (by omega)).mp e; omega), hti5 _ _ (by omega) (by omega)]
        have hst6 : ∀ y, y < 4 → zs_i τ6 (q + 9) y = zs_i τ3 (q + 9) y := by
          intro y hy
          by_cases hss : s6 = s3
          · rw [(le2 hss).2.2.2 y, hti5 _ _ (by omega) (by omega)]
          · rw [(le3 (by omega)).2.2.1 y hy (yn_neg2 hy (by omega)), hti5 _ _ (by omega) (by omega)]
        have hpo6 : ∀ j, j < op3 → zs_i τ6 57 j = zs_i τ3 57 j := fun j hj => by rw [le1 j hj, hti5 _ _ (by omega) (by omega)]
        have hin2 : yIn ent2 (s + 1) s6 := by
          rcases hent2 with ⟨-, h2⟩ | ⟨h1, h2⟩
          · exact Or.inl h2
          · exact Or.inr ⟨s3, by omega, h1, h2⟩
        refine yr_i rfl rfl (Or.inl ⟨rfl, i6, s6, a6, c6, e6, op6, ?_, ⟨by omega, by omega, by omega, by omega, by omega, by omega, w7⟩, ⟨?_, ?_⟩, ⟨fun k hk => ?_, fun y hy => ?_, fun j hj => ?_⟩, ⟨(hob7 1 (by omega)).trans o1, (hob7 7 (by omega)).trans o7⟩, fun x x1 x2 => ?_, ⟨by rw [hob75]; exact yIn_m hin (Nat.le_refl _) w2, by rw [yt_ie]; exact hin2⟩, fun x x1 x2 => ?_, fun g g1 g2 => ?_⟩)
        · exact yN_o hN8 (fun o k x => yt_in _ _ (by omega)) (fun o k x => rfl) (fun o k => rfl) (fun o k x y z => rfl) (fun o k => rfl)
        · exact yfS_t fS4 (yfS_t (show yfS p s c _ σ6 from ⟨fun o k x y z w u => fS46.1 o k x y (by omega) w (by omega), fun o k x y z => fS46.2.1 o k x (by omega) (by omega), fS46.2.2⟩) ⟨fun o k _ _ _ _ _ => yt_in _ _ (by omega), fun o k _ _ _ => rfl, fun o k => rfl⟩ (Nat.le_refl s) (Nat.le_refl c)) (Nat.le_refl s) (Nat.le_refl c)
        · exact yfT_t fT4 (show yfT q s e τ3 τ6 from ⟨fun o k x y z w u => fT46.1 o k x y z (by omega) (by omega), fT46.2⟩) (Nat.le_refl s) (Nat.le_refl e)
        · exact (hto6 k (by omega) (by omega)).trans (hto3 k hk)
        · exact (hst6 y hy).trans (hst3 y hy)
        · exact (hpo6 j (by omega)).trans (hpo3 j hj)
        · have base : yST σ6 τ6 p q t V L T c6 e6 x := by
            by_cases hx : x < s3
            · exact yST_m (yST_S (hS4 x x1 hx) hx (by omega) fS46 fT46 hp hq) w3 w4
            · exact (hrow2 x (by omega) x2).1
          exact yST_F base (Nat.le_refl _) (Nat.le_refl _) (fun k hk => yt_in _ _ (by omega)) rfl (fun k hk => ⟨rfl, yt_in _ _ (by omega)⟩) (fun o ho => rfl) (fun k hk => rfl)
        · have hcell : ∀ k, zs_i (zs_wi σ6 (p + 5 + s) 6 ent2) (p + 5 + x) k = zs_i σ6 (p + 5 + x) k := fun k => yt_in _ _ (by omega)
          unfold yD2
          rw [hcell 1, hcell 5, hcell 6, hcell 7]
          by_cases hx : x < s3
          · obtain ⟨d1, d2, d3, d4⟩ := hD4 x x1 hx
            rw [ho6 x 1 hx, ho6 x 5 hx, ho6 x 6 hx, ho6 x 7 hx]
            exact ⟨d1, yIn_m d2 (Nat.le_refl _) w2, yIn_m d3 (Nat.le_refl _) w2, yIn_m d4 (Nat.le_refl _) w2⟩
          · obtain ⟨d1, d2, d3, d4⟩ := (hrow2 x (by omega) x2).2
            refine ⟨?_, yIn_m d2 m2 (Nat.le_refl _), yIn_m d3 m2 (Nat.le_refl _), yIn_m d4 m2 (Nat.le_refl _)⟩
            rcases d1 with d1 | ⟨y, y1, y2, y3⟩
            · exact Or.inl d1
            · exact Or.inr ⟨y, by omega, y2, y3⟩
        · have hkr7 : zs_r (zs_wi σ6 (p + 5 + s) 6 ent2) (p + 5 + s) 0 = 1107 := (hr6 s (by omega)).trans hkr3
          have hkr8 : ¬ zs_r (zs_wi σ6 (p + 5 + s) 6 ent2) (p + 5 + s) 0 = 1108 := by rw [hkr7]; decide
          rw [if_neg hkr8] at g2
          have hcell : ∀ x k, s < x → x < 50 → zs_i (zs_wi σ6 (p + 5 + s) 6 ent2) (p + 5 + x) k = zs_i σ6 (p + 5 + x) k := fun x k _ _ => yt_in _ _ (by omega)
          have hE3 := heq3 (zs_wi σ6 (p + 5 + s) 6 ent2) g (g s 0) (fun x k x1 x2 => by rw [hcell x k x1 (by omega), ho6 x k x2, hoc4 x k x1 (by omega)]) (fun x x1 x2 => hr6 x x2) (fun x x1 x2 => g2 x x1 (by omega))
          have hE6 : yEq σ6 p (nI s) (g s 0) g s3 s6 := yEq_F (fun x x1 x2 => (hrow2 x x1 x2).2.1) hs6 (fun x k x1 x2 _ => hcell x k (by omega) (by omega)) (fun x x1 x2 => rfl) (fun x x1 x2 => g2 x (by omega) x2)
          have hg1 := g1.1
          rw [hob75, if_neg hkr8] at hg1
          have hg2 := g1.2
          rw [yt_ie] at hg2
          obtain ⟨u1, u2, u3⟩ := hpl1 g hkr3 hg1 hE3
          refine ⟨fun j j1 j2 => ?_, fun x w x1 x2 hw1 vl => ?_⟩
          · by_cases hj : j < op3
            · obtain ⟨x, w, v1, v2, v3, v4, v5⟩ := u1 j j1 hj
              exact ⟨x, w, v1, v2, by omega, (hpo6 j hj).trans v4, v5⟩
            · rcases hent2 with ⟨h1, h2⟩ | ⟨h1, h2⟩
              · obtain ⟨l1, l2, -, -⟩ := le2 h1
                have : j = op3 := by omega
                subst this
                refine ⟨s, 2, by omega, by omega, by omega, l2.trans yps_e, ?_⟩
                rw [hg2, if_pos h2]
              · obtain ⟨x, w, v1, v2, v3, v4, v5⟩ := (hflow2 h1 g _ hE6).1 j (by omega) j2
                exact ⟨x, w, v1, by omega, v3, v4, v5⟩
          · have vl : yVl (zs_r σ6 (p + 5 + x) 0) w := vl
            by_cases hxs : x = s
            · subst hxs
              rcases yvl_f vl (Or.inl hkr7) with hw | hw
              · subst hw
                rcases u2 with ⟨j, j1, j2, j3⟩ | ⟨-, j1⟩
                · exact Or.inl ⟨j, j1, by omega, (hpo6 j j2).trans j3⟩
                · exact Or.inr ((hto6 _ (by omega) (by omega)).trans j1)
              · subst hw
                rcases hent2 with ⟨h1, h2⟩ | ⟨h1, h2⟩
                · obtain ⟨l1, l2, -, -⟩ := le2 h1
                  exact Or.inl ⟨op3, by omega, by omega, l2.trans yps_e⟩
                · refine Or.inr ?_
                  rw [(le3 h1).2.1 (3 * x + 2) (by omega) rfl, hg2, h2, if_neg (y22 _ (by omega))]
            · by_cases hx : x < s3
              · rw [hr6 x hx] at vl
                rcases u3 x w (by omega) hx hw1 vl with ⟨j, j1, j2, j3⟩ | j1
                · exact Or.inl ⟨j, j1, by omega, (hpo6 j j2).trans j3⟩
                · exact Or.inr ((hto6 _ (by omega) (by omega)).trans j1)
              · rcases (hflow2 (by omega) g _ hE6).2 x w (by omega) x2 hw1 vl with ⟨j, j1, j2, j3⟩ | j1
                · exact Or.inl ⟨j, by omega, j2, j3⟩
                · exact Or.inr j1
    · rw [if_neg hel, if_neg (show ¬ (yx_tk v n (yx_ps v n i3)).1 = 1016 from hel), if_pos y00, m7, nI_1, yq_v, yn_b (show op3 < 200 by omega) (by decide), yq_g, nI_clamp (by omega), show 3 * nI s + 2 = nI (3 * s + 2) from n31 2, yq_v]
      refine yr_i (b := (1, yps τ3 op3 (3 * s + 2))) rfl rfl (Or.inl ⟨rfl, i3, s3, a3, c3, e3, op3 + 1, ?_, ⟨by omega, by omega, by omega, by omega, by omega, by omega, yps_o⟩, ⟨fS4, ?_⟩, ⟨fun k hk => ?_, fun y hy => ?_, fun j hj => ?_⟩, ⟨(hob4 1 (by omega)).trans o1, (hob4 7 (by omega)).trans o7⟩, fun x x1 x2 => ?_, ⟨by rw [yt_ie]; exact hin, Or.inl m2'⟩, hD4, fun g g1 g2 => ?_⟩)
      · exact yN_o hN4 (fun o k x => rfl) (fun o k x => rfl) (fun o k => rfl) (fun o k x y z => yps_i x (by omega)) (fun o k => rfl)
      · exact yfT_t fT4 ⟨fun o k x y z w u => yps_i (by omega) (by omega), fun o k => rfl⟩ (Nat.le_refl s) (Nat.le_refl e)
      · exact (yps_i (by omega) (by omega)).trans (hto3 k hk)
      · exact (yps_i (by omega) (by omega)).trans (hst3 y hy)
      · exact (yps_i (by omega) (by omega)).trans (hpo3 j hj)
      · exact yST_F (hS4 x x1 x2) (Nat.le_refl _) (Nat.le_refl _) (fun k hk => rfl) rfl (fun k hk => ⟨rfl, rfl⟩) (fun o ho => yps_i (by omega) (by omega)) (fun k hk => yps_i (by omega) (by omega))
      · have hkr4 : ¬ zs_r (zs_wi σ3 (p + 5 + s) 5 ent) (p + 5 + s) 0 = 1108 := by
          rw [show zs_r (zs_wi σ3 (p + 5 + s) 5 ent) (p + 5 + s) 0 = 1107 from hkr3]
          decide
        rw [if_neg hkr4] at g2
        have hE3 := heq3 _ g (g s 0) (fun x k x1 x2 => hoc4 x k x1 (by omega)) (fun x x1 x2 => rfl) g2
        have hg1 := g1.1
        rw [yt_ie, if_neg hkr4] at hg1
        obtain ⟨u1, u2, u3⟩ := hpl1 g hkr3 hg1 hE3
        have hpp : ∀ j, j < op3 → zs_i (yps τ3 op3 (3 * s + 2)) 57 j = zs_i τ3 57 j := fun j hj => yps_i (by omega) (by omega)
        have htt : ∀ k, zs_i (yps τ3 op3 (3 * s + 2)) (q + 13) k = zs_i τ3 (q + 13) k := fun j => yps_i (by omega) (by omega)
        refine ⟨fun j j1 j2 => ?_, fun x w x1 x2 w1 vl => ?_⟩
        · by_cases hj : j = op3
          · subst hj
            refine ⟨s, 2, by omega, by omega, by omega, yps_e, ?_⟩
            rw [g1.2, if_pos m2']
          · obtain ⟨x, w, v1, v2, v3, v4, v5⟩ := u1 j j1 (by omega)
            exact ⟨x, w, v1, v2, v3, (hpp j (by omega)).trans v4, v5⟩
        · have vl : yVl (zs_r σ3 (p + 5 + x) 0) w := vl
          by_cases hxs : x = s
          · subst hxs
            rcases yvl_f vl (Or.inl hkr3) with hw | hw
            · subst hw
              rcases u2 with ⟨j, j1, j2, j3⟩ | ⟨-, j1⟩
              · exact Or.inl ⟨j, j1, by omega, (hpp j j2).trans j3⟩
              · exact Or.inr ((htt _).trans j1)
            · subst hw
              exact Or.inl ⟨op3, by omega, by omega, yps_e⟩
          · rcases u3 x w (by omega) x2 w1 vl with ⟨j, j1, j2, j3⟩ | j1
            · exact Or.inl ⟨j, j1, by omega, (hpp j j2).trans j3⟩
            · exact Or.inr ((htt _).trans j1)
end YCB
