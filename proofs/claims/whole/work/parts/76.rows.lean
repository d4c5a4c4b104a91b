/-! rows of statements: the loop, the recursion -/
section YRT
variable {F n m p q t V L T : Nat} {v : Nat → Nat}
/-- at the loop's head -/
def yIV (F : Nat) (v : Nat → Nat) (n m p q t V L T i s c e fr : Nat) (par e0 : Int32) (σ τ : zs_S) (i1 s1 a1 c1 e1 op1 : Nat) (σ1 τ1 : zs_S) : Prop := yN F v n m p q t V L T i1 s1 a1 c1 e1 σ1 τ1 ∧ (i ≤ i1 ∧ s ≤ s1 ∧ c ≤ c1 ∧ e ≤ e1 ∧ fr ≤ op1 ∧ op1 + 2 * s ≤ fr + 1 + 2 * s1 ∧ zs_i τ1 1 16 = nI op1) ∧ (yfS p s c σ σ1 ∧ yfT q s e τ τ1) ∧ yLd q τ τ1 e0 fr op1 s s1 ∧ (∀ x, s ≤ x → x < s1 → yST σ1 τ1 p q t V L T c1 e1 x ∧ yD2 σ1 p par s (if yx_c v n i1 = 1020 then s1 else s1 + 1) x) ∧ (s < s1 → ∃ z, s ≤ z ∧ z < s1 ∧ zs_i σ1 (p + 5 + z) 1 = par ∧ zs_i σ1 (p + 5 + z) 7 = (if yx_c v n i1 = 1020 then -2 else nI s1) ∧ ∀ g K, yEq σ1 p par K g s s1 → yPn σ1 τ1 p q (g z 0) g fr op1 s s1)
theorem yx_end2 {i s a c e fr d N M i1 s1 a1 c1 e1 op1 x3 : Nat} {par e0 : Int32} {σ τ σ1 τ1 : zs_S} {kS : Int32 → Int32 → zs_S → Option zs_S} {kR : Int32 → Int32 → zs_S → Option (Int32 × zs_S)} (h : yBq F v n m p q t V L T i s a c e fr par e0 σ τ) (hI : yIV F v n m p q t V L T i s c e fr par e0 σ τ i1 s1 a1 c1 e1 op1 σ1 τ1) (hc : yx_c v n i1 = 1020) (hx : x3 ≤ 50) : yr (zf_Parser_readStatements_b_2 kS F (N + 1) par (nI d) (nI x3) σ1) (zf_M_statements_b_0 kR F (M + 1) (nI fr) (nI d) τ1) (fun σ' r => yBP F v n m p q t V L T i s c e fr par e0 σ τ r.1 σ' r.2) := by
  obtain ⟨hN, hcnt, ⟨fS, fT⟩, ⟨l1, l2, l3⟩, hrow, hfl⟩ := hI
  obtain ⟨k1, k2, k3, k4, hA, hp2, hq2⟩ := yN_tok hN
  have hp := hN.1.2.1
  have hq := hN.1.2.2
  have hi := yB_lt hN.1.1 k4 (by omega) (by omega)
  have hs1 : s1 ≤ 50 := hN.2.2.2.1.2.2
  obtain ⟨τ2, e1', e2', hN2, f1, f2, -⟩ := yN_st hN hi
  have ht : ∀ o k, o = 57 ∨ o = q + 13 ∨ o = q + 9 → zs_i τ2 o k = zs_i τ1 o k := fun o k ho => f2.1 _ _ (by omega)
  have ec : zf_Parser_readStatements_b_2 kS F (N + 1) par (nI d) (nI x3) σ1 = some σ1 := by
    rw [zf_Parser_readStatements_b_2, show (50 : Int32) = nI 50 from rfl, if_neg (nI_nlt hx (by omega)), if_pos hN.2.1.2.2.1, k1, zq_qr (by omega), yn_12 (by omega), yq_g, if_pos hc]
    rfl
  have em : zf_M_statements_b_0 kR F (M + 1) (nI fr) (nI d) τ1 = some (1, τ2) := by
    rw [zf_M_statements_b_0, yi_1318 hA, yq_c, if_pos (show (yx_tk v n (yx_ps v n i1)).1 = 1020 from hc), if_neg y01, e2', yq_s]
  refine yr_i ec em (Or.inl ⟨rfl, i1, s1, a1, c1, e1, op1, ⟨hc, hN.2.1, hN2⟩, ⟨hcnt.1, hcnt.2.1, hcnt.2.2.1, hcnt.2.2.2.1, hcnt.2.2.2.2.1, hcnt.2.2.2.2.2.1, (f2.1 _ _ (by omega)).trans hcnt.2.2.2.2.2.2⟩, ⟨fS, yfT_t fT (yfT_M (yfM_L (e := e1) f2)) (Nat.le_refl s) hcnt.2.2.2.1⟩, ⟨fun j hj => (ht _ _ (by omega)).trans (l1 j hj), fun es => ?_, fun es => ?_⟩, fun x x1 x2 => ⟨?_, ?_⟩, fun hlt g K hE => ?_⟩)
  · obtain ⟨d1, d2, d3, d4⟩ := l2 es
    exact ⟨d1, (ht _ _ (by omega)).trans d2, fun k => (ht _ _ (by omega)).trans (d3 k), fun k => (ht _ _ (by omega)).trans (d4 k)⟩
  · obtain ⟨d1, d2, d3, d4⟩ := l3 es
    exact ⟨fun k z1 z2 => (ht _ _ (by omega)).trans (d1 k z1 z2), fun k z1 z2 => (ht _ _ (by omega)).trans (d2 k z1 z2), fun k z1 z2 => (ht _ _ (by omega)).trans (d3 k z1 z2), fun k z1 z2 => (ht _ _ (by omega)).trans (d4 k z1 z2)⟩
  · exact yST_S (hrow x x1 x2).1 x2 hs1 (yfS_r _ _ _) (yfT_M (yfM_L f2)) hp hq
  · have := (hrow x x1 x2).2
    rw [if_pos hc] at this
    exact this
  · obtain ⟨z, z1, z2, z3, z4, z5⟩ := hfl hlt
    obtain ⟨u1, u2⟩ := z5 g K hE
    have hg : g z 0 = K := by
      rw [(hE z z1 z2).1, z4, if_pos hc, if_pos rfl, z3]
      unfold yBh
      rw [if_pos rfl]
    rw [hg] at u1
    refine ⟨fun j j1 j2 => ?_, fun x w x1 x2 w1 vl => ?_⟩
    · obtain ⟨x, w, v1, v2, v3, v4, v5⟩ := u1 j j1 j2
      exact ⟨x, w, v1, v2, v3, (ht _ _ (by omega)).trans v4, v5⟩
    · rcases u2 x w x1 x2 w1 vl with ⟨j, j1, j2, j3⟩ | j1
      · exact Or.inl ⟨j, j1, j2, (ht _ _ (by omega)).trans j3⟩
      · exact Or.inr ((ht _ _ (by omega)).trans j1)
/-- the class's mistake at once -/
theorem yKF_fl {i : Nat} {σ τ : zs_S} (hB : yB v n m) (hp : yPP p) (hP : yP v n m p i σ) (hM : yM F v n m q i τ) : zf_Parser_fail F σ = some (yfl v n i σ) ∧ yKF p q σ τ (yfl v n i σ) (zs_wi τ 1 11 (nI (yx_ps v n i))) := by
  have hp2 := yPP_b hp
  obtain ⟨k1, k2⟩ := yy_fail (F := F) hB hP
  have hb := yB_p hB hP.2.2.2.2.2.1
  have hn := hB.1
  refine ⟨k1, ?_, ⟨fun o k x y z => yt_in _ _ (by omega), fun o k _ => rfl⟩, yx_ps v n i, by omega, k2, yt_ie _ _ _ _⟩
  unfold yfl
  exact ⟨fun o k x y => ⟨by rw [yt_ir, yt_in _ _ (by omega)], by rw [yt_rn _ _ (by omega), yt_ri], rfl⟩, rfl, rfl⟩
/-- one more statement -/
theorem yx_iter {i s a c e fr d N i1 s1 a1 c1 e1 op1 : Nat} {par e0 : Int32} {σ τ σ1 τ1 : zs_S} {kR : Int32 → Int32 → zs_S → Option (Int32 × zs_S)} (h : yBq F v n m p q t V L T i s a c e fr par e0 σ τ) (hI : yIV F v n m p q t V L T i s c e fr par e0 σ τ i1 s1 a1 c1 e1 op1 σ1 τ1) (hc : yx_c v n i1 ≠ 1020) (hs : s1 < 50) (hst : yst (yx_c v n i1)) (hd : d ≤ 6) (hK : d < 6 → yBR F v n m p q t V L T (d + 1) (zf_Parser_readStatements F (N + 1)) kR) : ∃ σ' τ2 r τ', zf_Parser_readStatement (zf_Parser_readStatements F (N + 1)) F par (nI d) σ1 = some σ' ∧ zf_M_lead F (nI fr) (nI s1) (zs_wi τ1 q 6 (nI (s1 + 1))) = some τ2 ∧ zf_M_statement kR F (nI s1) (nI d) τ2 = some (r, τ') ∧ ((r = 1 ∧ ∃ i2 s2 a2 c2 e2 op2, s1 < s2 ∧ yIV F v n m p q t V L T i s c e fr par e0 σ τ i2 s2 a2 c2 e2 op2 σ' τ') ∨ (r = 0 ∧ yKF p q σ τ σ' τ')) := by
  obtain ⟨-, ⟨hfr0, hF⟩, hop0, hpt0, hv0, hpar⟩ := h
  obtain ⟨hN, ⟨m1, m2, m3, m4, m5, m6, m7⟩, ⟨fS, fT⟩, ⟨l1, l2, l3⟩, hrow, hfl⟩ := hI
  obtain ⟨k1, k2, k3, k4, hA, hp2, hq2⟩ := yN_tok hN
  have hp := hN.1.2.1
  have hq := hN.1.2.2
  have hN0 := hN
  -- the shape of what stands open
  have hsh : ∀ j, fr ≤ j → j < op1 → (s1 = s ∧ j = fr ∧ zs_i τ1 57 j = e0) ∨ (s < s1 ∧ ∃ x w, w < 3 ∧ s ≤ x ∧ x < s1 ∧ zs_i τ1 57 j = nI (3 * x + w)) := by
    intro j j1 j2
    by_cases hss : s1 = s
    · obtain ⟨d1, d2, -, -⟩ := l2 hss
      have : j = fr := by omega
      subst this
      exact Or.inl ⟨hss, rfl, d2.trans hpt0⟩
    · obtain ⟨z, z1, z2, z3, z4, z5⟩ := hfl (by omega)
      obtain ⟨g, hg⟩ := yEq_ex (K := 0) s1 (by omega) (fun x x1 x2 => (hrow x x1 x2).2.1)
      obtain ⟨x, w, w1, x1, x2, x3, -⟩ := (z5 g 0 hg).1 j j1 j2
      exact Or.inr ⟨by omega, x, w, w1, x1, x2, x3⟩
  have hr12 : zs_r (zs_wi τ1 q 6 (nI (s1 + 1))) 1 12 = q := hN.2.2.1.2.2.1
  have h57 : ∀ j, zs_i (zs_wi τ1 q 6 (nI (s1 + 1))) 57 j = zs_i τ1 57 j := fun j => yt_in _ _ (by omega)
  obtain ⟨τ2, t1, t2, t3, t4, t5, t6, t7, t8⟩ := ym_lead (F := F) (x := nI s1) (fr := fr) hq 200 F op1 (zs_wi τ1 q 6 (nI (s1 + 1))) (by omega) m5 (by omega) (by omega) hr12 ((yt_in _ _ (by omega)).trans m7) (fun j j1 j2 => by
    rw [h57]
    rcases hsh j j1 j2 with ⟨-, -, x3⟩ | ⟨-, x, w, w1, x1, x2, x3⟩
    · rw [x3]
      rcases hv0 with ⟨k, hk1, hk2⟩ | ⟨y, hy1, hy2⟩
      · exact Or.inl ⟨k, by omega, hk2⟩
      · exact Or.inr ⟨y, hy1, hy2⟩
    · exact Or.inl ⟨_, by omega, x3⟩)
  have elead : zf_M_lead F (nI fr) (nI s1) (zs_wi τ1 q 6 (nI (s1 + 1))) = some τ2 := t1
  -- the store ahead of the statement
  have t7' : ∀ o k, ¬ (o = 1 ∧ k = 16) → ¬ (q + 9 ≤ o ∧ o ≤ q + 13) → ¬ (o = q ∧ k = 6) → zs_i τ2 o k = zs_i τ1 o k := fun o k x y z => by rw [t7 o k x (by omega) (by omega), yt_in _ _ z]
  obtain ⟨⟨h1, -, -⟩, h4, h5, ⟨h6, h7, h8⟩, ⟨h9, h9b, h9c⟩, ⟨h10, h10b⟩, ⟨h11, h11b⟩, h12⟩ := hN
  have hNb : yN F v n m p q t V L T i1 (s1 + 1) a1 c1 e1 (ybg p s1 par σ1) τ2 := by
    obtain ⟨b1, b2, b3, b4, b5, b6, b7⟩ := h4
    refine ⟨⟨h1, hp, hq⟩, ⟨(ybg_r (by omega)).trans b1, (ybg_r (by omega)).trans b2, (ybg_i (by omega) (by omega)).trans b3, (ybg_i (by omega) (by omega)).trans b4, (ybg_r (by omega)).trans b5, b6, yx_rowsF b7 (fun k => ybg_r (by omega)) (fun k => ybg_i (by omega) (by omega)) (fun k => rfl)⟩, yM_L h5 (fun k => t7' _ _ (by omega) (by omega) (by omega)) (fun k _ _ => t7' _ _ (by omega) (by omega) (by omega)) (t8 _ _), ⟨?_, ?_, by omega⟩, ⟨(ybg_i (by omega) (by omega)).trans h9, (t7' _ _ (by omega) (by omega) (by omega)).trans h9b, h9c⟩, ⟨(ybg_i (by omega) (by omega)).trans h10, h10b⟩, ⟨(t7' _ _ (by omega) (by omega) (by omega)).trans h11, by omega⟩, yNm_F h12 (fun k => rfl) (fun k => ybg_i (by omega) (by omega)) (ybg_i (by omega) (by omega)) (ybg_i (by omega) (by omega)) (t8 _ _) (fun o k x y => t7' _ _ (by omega) (by omega) (by omega)) (fun o k x y => t7' _ _ (by omega) (by omega) (by omega))⟩
    · unfold ybg
      exact yt_ie _ _ _ _
    · rw [t7 _ _ (by omega) (by omega) (by omega), yt_ie]
  have hPr : yPr F v n m p q t V L T i1 s1 a1 c1 e1 fr par (ybg p s1 par σ1) τ2 := by
    refine ⟨hNb, ⟨h11b, by omega, hs, hF⟩, t2, ?_, ?_, ?_, ?_, ?_⟩
    all_goals unfold ybg
    all_goals simp (disch := omega) only [yt_in, yt_ie]
  obtain ⟨σ2, r, τ', e2', e3', hKD⟩ := ykd_all hPr hst hd hK
  have fSb : yfS p s1 c1 σ1 (ybg p s1 par σ1) := ⟨fun o k x y z w u => ybg_i y (by omega), fun o k x y z => ybg_r (by omega), fun o k => rfl⟩
  have fTb : yfT q s1 e1 τ1 τ2 := ⟨fun o k x y z w u => by rw [t7 o k (by omega) (by omega) (by omega), yt_in _ _ (by omega)], t8⟩
  rcases Or.symm hKD with ⟨hr, g1, g2, f, g3, g4, g5⟩ | ⟨hr, i2, s2, a2, c2, e2, op2, hN2, ⟨n1, n2, n3, n4, n5, n6, n7⟩, ⟨fS2, fT2⟩, ⟨hto, hsta, hpo⟩, ⟨hpa, hfo⟩, hST, ⟨hy1, hy2⟩, hD2, hflow⟩
  · obtain ⟨σ3, j1, j2, j3⟩ := yk_208 (F := F) (kS := zf_Parser_readStatements F (N + 1)) g4 hp hs
    refine ⟨σ3, τ2, r, τ', ?_, elead, e2', Or.inr ⟨hr, ygC_t (ygC_S hp fS) (ygC_t (ygC_S hp fSb) (ygC_t g1 j3)), ygM_t (ygM_T fT) (ygM_t (ygM_T fTb) g2), f, g3, j2, g5⟩⟩
    rw [yy_disp hN0 hs, e3', j1]
  · have hs2 : s2 ≤ 50 := hN2.2.2.2.1.2.2
    refine ⟨zs_wi σ2 (p + 5 + s1) 7 (if yx_c v n i2 = 1020 then -2 else nI s2), τ2, r, τ', ?_, elead, e2', Or.inl ⟨hr, i2, s2, a2, c2, e2, op2, n2, ?_⟩⟩
    · rw [yy_disp hN0 hs, e3', yy_follow hN2 hs]
    have fS3 : yfS p s1 c1 σ1 (zs_wi σ2 (p + 5 + s1) 7 (if yx_c v n i2 = 1020 then -2 else nI s2)) := yfS_t fSb (yfS_t fS2 ⟨fun o k _ _ _ _ _ => yt_in _ _ (by omega), fun o k _ _ _ => rfl, fun o k => rfl⟩ (Nat.le_refl s1) (Nat.le_refl c1)) (Nat.le_refl s1) (Nat.le_refl c1)
    have fT3 : yfT q s1 e1 τ1 τ' := yfT_t fTb fT2 (Nat.le_refl s1) (Nat.le_refl e1)
    have hcl : ∀ x k, x < s1 → zs_i (zs_wi σ2 (p + 5 + s1) 7 (if yx_c v n i2 = 1020 then -2 else nI s2)) (p + 5 + x) k = zs_i σ1 (p + 5 + x) k := fun x k hx => fS3.1 _ _ (by omega) (by omega) (by omega) (by omega) (by omega)
    have hrl : ∀ x, x < s1 → zs_r (zs_wi σ2 (p + 5 + s1) 7 (if yx_c v n i2 = 1020 then -2 else nI s2)) (p + 5 + x) 0 = zs_r σ1 (p + 5 + x) 0 := fun x hx => fS3.2.1 _ _ (by omega) (by omega) (by omega)
    have hcg : ∀ x k, s1 < x → x < 50 → zs_i (zs_wi σ2 (p + 5 + s1) 7 (if yx_c v n i2 = 1020 then -2 else nI s2)) (p + 5 + x) k = zs_i σ2 (p + 5 + x) k := fun x k hx _ => yt_in _ _ (by omega)
    have hcs : ∀ k, k ≠ 7 → zs_i (zs_wi σ2 (p + 5 + s1) 7 (if yx_c v n i2 = 1020 then -2 else nI s2)) (p + 5 + s1) k = zs_i σ2 (p + 5 + s1) k := fun k hk => yt_in _ _ (by omega)
    -- pointers below the row's first statement
    have hnp : ∀ k, k < 3 * s → e0 ≠ nI k → ¬ ∃ j, fr ≤ j ∧ j < op1 ∧ zs_i (zs_wi τ1 q 6 (nI (s1 + 1))) 57 j = nI k := by
      intro k hk he ⟨j, j1, j2, j3⟩
      rw [h57] at j3
      rcases hsh j j1 j2 with ⟨-, -, x3⟩ | ⟨-, x, w, w1, x1, x2, x3⟩
      · exact he (x3.symm.trans j3)
      · have := (nI_eq (by omega) (by omega)).mp (j3.symm.trans x3)
        omega
    have hny : ∀ y, y < 4 → e0 ≠ -1 - nI y → ¬ ∃ j, fr ≤ j ∧ j < op1 ∧ zs_i (zs_wi τ1 q 6 (nI (s1 + 1))) 57 j = -1 - nI y := by
      intro y hy he ⟨j, j1, j2, j3⟩
      rw [h57] at j3
      rcases hsh j j1 j2 with ⟨-, -, x3⟩ | ⟨-, x, w, w1, x1, x2, x3⟩
      · exact he (x3.symm.trans j3)
      · exact yn_neg2 hy (by omega) (x3.symm.trans j3)
    have w13 : ∀ k, zs_i (zs_wi τ1 q 6 (nI (s1 + 1))) (q + 13) k = zs_i τ1 (q + 13) k := fun k => yt_in _ _ (by omega)
    have w9 : ∀ k, zs_i (zs_wi τ1 q 6 (nI (s1 + 1))) (q + 9) k = zs_i τ1 (q + 9) k := fun k => yt_in _ _ (by omega)
    refine ⟨yN_o hN2 (fun o k x => yt_in _ _ (by omega)) (fun o k x => rfl) (fun o k => rfl) (fun o k x y z => rfl) (fun o k => rfl), ⟨by omega, by omega, by omega, by omega, by omega, by omega, n7⟩, ⟨yfS_t fS fS3 m2 m3, yfT_t fT fT3 m2 m4⟩, ⟨fun j hj => ?_, fun es => by omega, fun _ => ⟨fun k hk he => ?_, fun k hk he => ?_, fun y hy he => ?_, fun y hy he => ?_⟩⟩, fun x x1 x2 => ⟨?_, ?_⟩, fun _ => ⟨s1, by omega, by omega, (hcs 1 (by omega)).trans hpa, yt_ie _ _ _ _, fun g K hE => ?_⟩⟩
    · rw [hpo j hj, t7 _ _ (by omega) (by omega) (by omega), h57, l1 j hj]
    · rw [hto k (by omega), t4 k (by omega) (hnp k hk he), w13]
      by_cases hss : s1 = s
      · exact (l2 hss).2.2.1 k
      · exact (l3 (by omega)).1 k hk he
    · rw [hto k (by omega)]
      by_cases hss : s1 = s
      · obtain ⟨d1, d2, -, -⟩ := l2 hss
        rw [t3 k (by omega) ⟨fr, Nat.le_refl fr, by omega, by rw [h57, d2, hpt0, he]⟩, hss]
      · rw [t4 k (by omega) (fun ⟨j, j1, j2, j3⟩ => by
          rw [h57] at j3
          rcases hsh j j1 j2 with ⟨q1, -, -⟩ | ⟨-, x, w, w1, x1, x2, x3⟩
          · exact hss q1
          · have := (nI_eq (by omega) (by omega)).mp (j3.symm.trans x3)
            omega), w13]
        exact (l3 (by omega)).2.1 k hk he
    · rw [hsta y hy, t6 y hy (hny y hy he), w9]
      by_cases hss : s1 = s
      · exact (l2 hss).2.2.2 y
      · exact (l3 (by omega)).2.2.1 y hy he
    · rw [hsta y hy]
      by_cases hss : s1 = s
      · obtain ⟨d1, d2, -, -⟩ := l2 hss
        rw [t5 y hy ⟨fr, Nat.le_refl fr, by omega, by rw [h57, d2, hpt0, he]⟩, hss]
      · rw [t6 y hy (fun ⟨j, j1, j2, j3⟩ => by
          rw [h57] at j3
          rcases hsh j j1 j2 with ⟨q1, -, -⟩ | ⟨-, x, w, w1, x1, x2, x3⟩
          · exact hss q1
          · exact yn_neg2 hy (by omega) (x3.symm.trans j3)), w9]
        exact (l3 (by omega)).2.2.2 y hy he
    · by_cases hx : x < s1
      · exact yST_m (yST_S (hrow x x1 hx).1 hx (by omega) fS3 fT3 hp hq) n3 n4
      · exact yST_F (hST x (by omega) x2) (Nat.le_refl _) (Nat.le_refl _) (fun k hk => yt_in _ _ (by omega)) rfl (fun k hk => ⟨rfl, yt_in _ _ (by omega)⟩) (fun o ho => rfl) (fun k hk => rfl)
    · have hb2 : s2 ≤ (if yx_c v n i2 = 1020 then s2 else s2 + 1) := by
        split <;> omega
      unfold yD2
      by_cases hx : x < s1
      · have hh := (hrow x x1 hx).2
        rw [if_neg hc] at hh
        obtain ⟨d1, d2, d3, d4⟩ := hh
        rw [hcl x 1 hx, hcl x 5 hx, hcl x 6 hx, hcl x 7 hx]
        exact ⟨d1, yIn_m d2 (Nat.le_refl _) (by omega), yIn_m d3 (Nat.le_refl _) (by omega), yIn_m d4 (Nat.le_refl _) (by omega)⟩
      · by_cases hx2 : x = s1
        · subst hx2
          rw [hcs 1 (by omega), hcs 5 (by omega), hcs 6 (by omega), yt_ie]
          refine ⟨Or.inl hpa, yIn_m hy1 (by omega) hb2, yIn_m hy2 (by omega) hb2, ?_⟩
          by_cases hcc : yx_c v n i2 = 1020
          · rw [if_pos hcc]
            exact Or.inl rfl
          · rw [if_neg hcc, if_neg hcc]
            exact Or.inr ⟨s2, by omega, by omega, rfl⟩
        · obtain ⟨d1, d2, d3, d4⟩ := hD2 x (by omega) x2
          rw [hcg x 1 (by omega) (by omega), hcg x 5 (by omega) (by omega), hcg x 6 (by omega) (by omega), hcg x 7 (by omega) (by omega)]
          refine ⟨?_, yIn_m d2 (by omega) hb2, yIn_m d3 (by omega) hb2, yIn_m d4 (by omega) hb2⟩
          rcases d1 with d1 | ⟨y, y1, y2, y3⟩
          · exact Or.inr ⟨s1, by omega, by omega, d1⟩
          · exact Or.inr ⟨y, by omega, y2, y3⟩
    · -- the ways
      have hE12 : yE12 σ2 p g s1 := by
        have := (hE s1 (by omega) (by omega)).2
        unfold yE12 at this
        rw [hcs 5 (by omega), hcs 6 (by omega)] at this
        exact this
      have hpar2 : par = -1 ∨ ∃ y, y < s1 ∧ par = nI y := by
        rcases hpar with hh | ⟨y, y1, y2⟩
        · exact Or.inl hh
        · exact Or.inr ⟨y, by omega, y2⟩
      have hEP := yEq_P (s := s1) (s' := s2) (K := K) (g := g) (fun x x1 x2 => by rw [hcg x 1 x1 (by omega)]; exact (hD2 x x1 x2).1) hs2 hpar2 (fun x x1 x2 => hE x (by omega) x2)
      have hEQ : yEq σ2 p (nI s1) (if zs_r σ2 (p + 5 + s1) 0 = 1108 then nI s1 else g s1 0) g (s1 + 1) s2 := yEq_F (σ' := zs_wi σ2 (p + 5 + s1) 7 (if yx_c v n i2 = 1020 then -2 else nI s2)) (fun x x1 x2 => (hD2 x (by omega) x2).1) hs2 (fun x k x1 x2 _ => hcg x k (by omega) (by omega)) (fun x x1 x2 => rfl) hEP
      obtain ⟨u1, u2⟩ := hflow g hE12 hEQ
      refine ⟨fun j j1 j2 => ?_, fun x w x1 x2 w1 vl => ?_⟩
      · obtain ⟨x, w, v1, v2, v3, v4, v5⟩ := u1 j j1 j2
        exact ⟨x, w, v1, by omega, v3, v4, v5⟩
      · by_cases hx : x < s1
        · refine Or.inr ?_
          obtain ⟨z, z1, z2, z3, z4, z5⟩ := hfl (by omega)
          have hE1 : yEq σ1 p par K g s s1 := yEq_F (fun x x1 x2 => (hrow x x1 x2).2.1) (by omega) (fun x k x1 x2 _ => hcl x k x2) (fun x x1 x2 => hrl x x2) (fun x x1 x2 => hE x x1 (by omega))
          have hgz : g z 0 = nI s1 := by
            rw [(hE1 z z1 z2).1, z4, if_neg hc, if_neg (yn_ne2 (by omega))]
          obtain ⟨o1, o2⟩ := z5 g K hE1
          rw [hrl x hx] at vl
          rw [hto _ (by omega)]
          by_cases hpd : ∃ j, fr ≤ j ∧ j < op1 ∧ zs_i τ1 57 j = nI (3 * x + w)
          · obtain ⟨j, j1, j2, j3⟩ := hpd
            rw [t3 (3 * x + w) (by omega) ⟨j, j1, j2, by rw [h57]; exact j3⟩]
            obtain ⟨x', w', v1, v2, v3, v4, v5⟩ := o1 j j1 j2
            obtain ⟨rfl, rfl⟩ := y3 w1 v1 (by omega) (by omega) (j3.symm.trans v4)
            rw [v5, hgz]
          · rw [t4 (3 * x + w) (by omega) (fun ⟨j, j1, j2, j3⟩ => hpd ⟨j, j1, j2, by rw [h57] at j3; exact j3⟩), w13]
            rcases o2 x w x1 hx w1 vl with hh | hh
            · exact absurd hh hpd
            · exact hh
        · exact u2 x w (by omega) x2 w1 vl
theorem yx_rowl {i s a c e fr d N : Nat} {par e0 : Int32} {σ τ : zs_S} {kR : Int32 → Int32 → zs_S → Option (Int32 × zs_S)} (h : yBq F v n m p q t V L T i s a c e fr par e0 σ τ) (hd : d ≤ 6) (hK : d < 6 → yBR F v n m p q t V L T (d + 1) (zf_Parser_readStatements F (N + 1)) kR) : ∀ dd M1 M2 x3 i1 s1 a1 c1 e1 op1 σ1 τ1, 50 - s1 ≤ dd → dd + 1 < M1 → dd + 1 < M2 → x3 + s ≤ s1 → yIV F v n m p q t V L T i s c e fr par e0 σ τ i1 s1 a1 c1 e1 op1 σ1 τ1 → yr (zf_Parser_readStatements_b_2 (zf_Parser_readStatements F (N + 1)) F M1 par (nI d) (nI x3) σ1) (zf_M_statements_b_0 kR F M2 (nI fr) (nI d) τ1) (fun σ' r => yBP F v n m p q t V L T i s c e fr par e0 σ τ r.1 σ' r.2) := by
  intro dd
  induction dd with
  | zero =>
    intro M1 M2 x3 i1 s1 a1 c1 e1 op1 σ1 τ1 g1 g2 g3 g4 hI
    obtain ⟨M1, rfl⟩ : ∃ q, M1 = q + 1 + 1 := ⟨M1 - 2, by omega⟩
    obtain ⟨M2, rfl⟩ : ∃ q, M2 = q + 1 := ⟨M2 - 1, by omega⟩
    have hs50 : s1 ≤ 50 := hI.1.2.2.2.1.2.2
    by_cases hc : yx_c v n i1 = 1020
    · exact yx_end2 h hI hc (by omega)
    · have hN := hI.1
      obtain ⟨k1, k2, k3, k4, hA, hp2, hq2⟩ := yN_tok hN
      have hp := hN.1.2.1
      obtain ⟨f1, f2⟩ := yKF_fl (F := F) hN.1.1 hp hN.2.1 hN.2.2.1
      have hs : s1 = 50 := by omega
      have hsz : zs_i σ1 p 3 = nI 50 := by
        rw [hN.2.2.2.1.1, hs]
      rw [(yy_casc (M := M2) (kS := kR) (x1 := nI fr) (x2 := nI d) hN hc).1 (Or.inl hs)]
      refine yr_i (a := yfl v n i1 σ1) ?_ rfl (Or.inr ⟨rfl, yKF_t (ygC_S hp hI.2.2.1.1) (ygM_T hI.2.2.1.2) f2⟩)
      obtain ⟨-, -, f, -, fk, -⟩ := f2
      rw [zf_Parser_readStatements_b_2, show (50 : Int32) = nI 50 from rfl, if_neg (nI_nlt (by omega) (by omega)), if_pos hN.2.1.2.2.1, k1, zq_qr (by omega), yn_12 (by omega), yq_g, if_neg hc]
      unfold zf_Parser_readStatement
      rw [hN.2.1.2.1, zq_qr (by omega), yp_k hp, yq_g, hsz, if_pos (show nI 50 = (50 : Int32) from rfl), f1, yq_s, yq_s, yq_v, yk_loop fk (by omega)]
  | succ dd ih =>
    intro M1 M2 x3 i1 s1 a1 c1 e1 op1 σ1 τ1 g1 g2 g3 g4 hI
    obtain ⟨M1, rfl⟩ : ∃ q, M1 = q + 1 := ⟨M1 - 1, by omega⟩
    obtain ⟨M2, rfl⟩ : ∃ q, M2 = q + 1 := ⟨M2 - 1, by omega⟩
    have hs50 : s1 ≤ 50 := hI.1.2.2.2.1.2.2
    by_cases hc : yx_c v n i1 = 1020
    · exact yx_end2 h hI hc (by omega)
    · have hN := hI.1
      obtain ⟨k1, k2, k3, k4, hA, hp2, hq2⟩ := yN_tok hN
      have hp := hN.1.2.1
      have ec : zf_Parser_readStatements_b_2 (zf_Parser_readStatements F (N + 1)) F (M1 + 1) par (nI d) (nI x3) σ1 = zq_d (zf_Parser_readStatement (zf_Parser_readStatements F (N + 1)) F par (nI d) σ1) fun σ3 => zf_Parser_readStatements_b_2 (zf_Parser_readStatements F (N + 1)) F M1 par (nI d) (nI (x3 + 1)) σ3 := by
        rw [zf_Parser_readStatements_b_2, show (50 : Int32) = nI 50 from rfl, if_neg (nI_nlt (by omega) (by omega)), if_pos hN.2.1.2.2.1, k1, zq_qr (by omega), yn_12 (by omega), yq_g, if_neg hc, nI_1]
        simp only [yq_v]
      by_cases hs : s1 = 50
      · obtain ⟨f1, f2⟩ := yKF_fl (F := F) hN.1.1 hp hN.2.1 hN.2.2.1
        have hsz : zs_i σ1 p 3 = nI 50 := by
          rw [hN.2.2.2.1.1, hs]
        rw [(yy_casc (M := M2) (kS := kR) (x1 := nI fr) (x2 := nI d) hN hc).1 (Or.inl hs)]
        refine yr_i (a := yfl v n i1 σ1) ?_ rfl (Or.inr ⟨rfl, yKF_t (ygC_S hp hI.2.2.1.1) (ygM_T hI.2.2.1.2) f2⟩)
        obtain ⟨-, -, f, -, fk, -⟩ := f2
        rw [ec]
        unfold zf_Parser_readStatement
        rw [hN.2.1.2.1, zq_qr (by omega), yp_k hp, yq_g, hsz, if_pos (show nI 50 = (50 : Int32) from rfl), f1, yq_s, yq_s, yk_loop fk (by omega)]
      · have hs : s1 < 50 := by omega
        by_cases hst : yst (yx_c v n i1)
        · obtain ⟨σ', τ2, r, τ', e1', e2', e3', hx⟩ := yx_iter h hI hc hs hst hd hK
          rw [ec, e1', yq_s, (yy_casc (M := M2) (kS := kR) (x1 := nI fr) (x2 := nI d) hN hc).2 hs hst, e2', yq_s, e3', yq_c]
          rcases hx with ⟨hr, i2, s2, a2, c2, e2, op2, hlt, hI2⟩ | ⟨hr, hf⟩
          · rw [hr, if_neg y01]
            exact ih M1 M2 (x3 + 1) i2 s2 a2 c2 e2 op2 σ' τ' (by omega) (by omega) (by omega) (by omega) hI2
          · rw [hr, if_pos y00]
            have hf' := hf
            obtain ⟨-, -, f, -, fk, -⟩ := hf
            exact yr_i (yk_loop fk (by omega)) rfl (Or.inr ⟨rfl, hf'⟩)
        · rw [(yy_casc (M := M2) (kS := kR) (x1 := nI fr) (x2 := nI d) hN hc).1 (Or.inr hst)]
          have hPb : yP v n m p i1 (ybg p s1 par σ1) := by
            obtain ⟨b1, b2, b3, b4, b5, b6, b7⟩ := hN.2.1
            exact ⟨(ybg_r (by omega)).trans b1, (ybg_r (by omega)).trans b2, (ybg_i (by omega) (by omega)).trans b3, (ybg_i (by omega) (by omega)).trans b4, (ybg_r (by omega)).trans b5, b6, yx_rowsF b7 (fun k => ybg_r (by omega)) (fun k => ybg_i (by omega) (by omega)) (fun k => rfl)⟩
          obtain ⟨f1, f2⟩ := yKF_fl (F := F) hN.1.1 hp hPb hN.2.2.1
          have fSb : yfS p s1 c1 σ1 (ybg p s1 par σ1) := ⟨fun o k x y z w u => ybg_i y (by omega), fun o k x y z => ybg_r (by omega), fun o k => rfl⟩
          have f2' := yKF_t (ygC_t (ygC_S hp hI.2.2.1.1) (ygC_S hp fSb)) (ygM_T hI.2.2.1.2) f2
          obtain ⟨q1, q2, f, q3, q4, q5⟩ := f2'
          obtain ⟨σ3, j1, j2, j3⟩ := yk_208 (F := F) (kS := zf_Parser_readStatements F (N + 1)) q4 hp hs
          refine yr_i (a := σ3) ?_ rfl (Or.inr ⟨rfl, ygC_t q1 j3, q2, f, q3, j2, q5⟩)
          have hdf : ydsp (zf_Parser_readStatements F (N + 1)) F (p + 5 + s1) (nI d) (zd_mt.getD (yx_c v n i1 - 1000) 0) (ybg p s1 par σ1) = some σ3 := by
            have tb : ∀ x, x < 37 → (x = 2 ∨ x = 9 ∨ x = 10 ∨ x = 11 ∨ x = 12 ∨ x = 14 ∨ x = 15 ∨ x = 17 ∨ x = 18) ∨ ¬ zd_mt.getD x 0 = 11 ∧ ¬ zd_mt.getD x 0 = 12 ∧ ¬ zd_mt.getD x 0 = 13 ∧ ¬ zd_mt.getD x 0 = 14 ∧ ¬ zd_mt.getD x 0 = 15 ∧ ¬ zd_mt.getD x 0 = 16 ∧ ¬ zd_mt.getD x 0 = 17 ∧ ¬ zd_mt.getD x 0 = 18 ∧ ¬ zd_mt.getD x 0 = 19 := by decide +kernel
            obtain ⟨t1, t2, t3, t4, t5, t6, t7, t8, t9⟩ := (tb (yx_c v n i1 - 1000) (by omega)).resolve_left (by unfold yst at hst; omega)
            unfold ydsp
            rw [if_neg t1, if_neg t2, if_neg t3, if_neg t4, if_neg t5, if_neg t6, if_neg t7, if_neg t8, if_neg t9, f1, yq_s, j1]
          rw [ec, yy_disp hN hs, hdf, yq_s, yk_loop j2 (by omega)]
/-- rows of statements are read alike -/
theorem yx_stats (hF : 1700 < F) : ∀ N d, d ≤ 6 → 7 - d < N → yBR F v n m p q t V L T d (zf_Parser_readStatements F N) (zf_M_statements F N) := by
  intro N
  induction N with
  | zero => intro d _ h; omega
  | succ N ih =>
    intro d hd hN i s a c e fr par e0 σ τ h
    have hr12 := h.1.2.2.1.2.2.1
    rw [zf_Parser_readStatements, zf_M_statements]
    unfold zf_Parser_readStatements_b zf_M_statements_b
    have hI : yIV F v n m p q t V L T i s c e fr par e0 σ τ i s a c e (fr + 1) σ τ := by
      obtain ⟨h1, h2, h3, h4, h5, h6⟩ := h
      exact ⟨h1, ⟨Nat.le_refl _, Nat.le_refl _, Nat.le_refl _, Nat.le_refl _, by omega, by omega, h3⟩, ⟨yfS_r _ _ _, yfT_r _ _ _⟩, ⟨fun j _ => rfl, fun _ => ⟨rfl, rfl, fun k => rfl, fun y => rfl⟩, fun hlt => absurd hlt (by omega)⟩, fun x x1 x2 => by omega, fun hlt => absurd hlt (by omega)⟩
    cases N with
    | zero => omega
    | succ N => exact yx_rowl (N := N) h hd (fun hd6 => ih (d + 1) (by omega) (by omega)) 51 F F 0 i s a c e (fr + 1) σ τ (by omega) (by omega) (by omega) (by omega) hI
end YRT
