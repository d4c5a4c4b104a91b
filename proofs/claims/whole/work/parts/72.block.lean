/-! blocks: what a row of statements leaves; a block of it -/
section YBA
variable {F n m p q t V L T : Nat} {v : Nat → Nat}
def yLd (q : Nat) (τ τ' : zs_S) (e0 : Int32) (fr op' s s' : Nat) : Prop := (∀ j, j < fr → zs_i τ' 57 j = zs_i τ 57 j) ∧ (s' = s → op' = fr + 1 ∧ zs_i τ' 57 fr = zs_i τ 57 fr ∧ (∀ k, zs_i τ' (q + 13) k = zs_i τ (q + 13) k) ∧ (∀ y, zs_i τ' (q + 9) y = zs_i τ (q + 9) y)) ∧ (s < s' → (∀ k, k < 3 * s → e0 ≠ nI k → zs_i τ' (q + 13) k = zs_i τ (q + 13) k) ∧ (∀ k, k < 3 * s → e0 = nI k → zs_i τ' (q + 13) k = nI s) ∧ (∀ y, y < 4 → e0 ≠ -1 - nI y → zs_i τ' (q + 9) y = zs_i τ (q + 9) y) ∧ (∀ y, y < 4 → e0 = -1 - nI y → zs_i τ' (q + 9) y = nI s))
/-- what a row of statements leaves, at its end -/
def yBO (F : Nat) (v : Nat → Nat) (n m p q t V L T i s c e fr : Nat) (par e0 : Int32) (σ τ σ' τ' : zs_S) (i' s' c' e' op' : Nat) : Prop := (i ≤ i' ∧ s ≤ s' ∧ c ≤ c' ∧ e ≤ e' ∧ fr ≤ op' ∧ op' + 2 * s ≤ fr + 1 + 2 * s' ∧ zs_i τ' 1 16 = nI op') ∧ (yfS p s c σ σ' ∧ yfT q s e τ τ') ∧ yLd q τ τ' e0 fr op' s s' ∧ (∀ x, s ≤ x → x < s' → yST σ' τ' p q t V L T c' e' x ∧ yD2 σ' p par s s' x) ∧ (s < s' → ∀ g K, yEq σ' p par K g s s' → yPn σ' τ' p q K g fr op' s s')
def yBP (F : Nat) (v : Nat → Nat) (n m p q t V L T i s c e fr : Nat) (par e0 : Int32) (σ τ : zs_S) (r : Int32) (σ' τ' : zs_S) : Prop := (r = 1 ∧ ∃ i' s' a' c' e' op', (yx_c v n i' = 1020 ∧ yP v n m p i' σ' ∧ yN F v n m p q t V L T (i' + 1) s' a' c' e' (yadv v n i' σ') τ') ∧ yBO F v n m p q t V L T i s c e fr par e0 σ τ σ' τ' i' s' c' e' op') ∨ (r = 0 ∧ yKF p q σ τ σ' τ')
def yBq (F : Nat) (v : Nat → Nat) (n m p q t V L T i s a c e fr : Nat) (par e0 : Int32) (σ τ : zs_S) : Prop := yN F v n m p q t V L T i s a c e σ τ ∧ (fr ≤ 2 * s ∧ 1700 < F) ∧ zs_i τ 1 16 = nI (fr + 1) ∧ zs_i τ 57 fr = e0 ∧ ((∃ k, k < 3 * s ∧ e0 = nI k) ∨ (∃ y, y < 4 ∧ e0 = -1 - nI y)) ∧ (par = -1 ∨ ∃ y, y < s ∧ par = nI y)
def yBR (F : Nat) (v : Nat → Nat) (n m p q t V L T d : Nat) (kL : Int32 → Int32 → zs_S → Option zs_S) (kR : Int32 → Int32 → zs_S → Option (Int32 × zs_S)) : Prop := ∀ i s a c e fr par e0 σ τ, yBq F v n m p q t V L T i s a c e fr par e0 σ τ → yr (kL par (nI d) σ) (kR (nI fr) (nI d) τ) (fun σ' r => yBP F v n m p q t V L T i s c e fr par e0 σ τ r.1 σ' r.2)
theorem yEq_F {par K : Int32} {g : Nat → Nat → Int32} {lo hi : Nat} {σ σ' : zs_S} (hD : ∀ x, lo ≤ x → x < hi → zs_i σ (p + 5 + x) 1 = par ∨ ∃ y, lo ≤ y ∧ y < x ∧ zs_i σ (p + 5 + x) 1 = nI y) (hhi : hi ≤ 50) (hi2 : ∀ x k, lo ≤ x → x < hi → k = 1 ∨ k = 5 ∨ k = 6 ∨ k = 7 → zs_i σ' (p + 5 + x) k = zs_i σ (p + 5 + x) k) (hr : ∀ x, lo ≤ x → x < hi → zs_r σ' (p + 5 + x) 0 = zs_r σ (p + 5 + x) 0) (h : yEq σ' p par K g lo hi) : yEq σ p par K g lo hi := by
  intro x x1 x2
  obtain ⟨a1, a2, a3⟩ := h x x1 x2
  rw [hi2 x 7 x1 x2 (by omega), hi2 x 1 x1 x2 (by omega)] at a1
  rw [hi2 x 5 x1 x2 (by omega), hr x x1 x2] at a2
  rw [hi2 x 6 x1 x2 (by omega)] at a3
  refine ⟨?_, a2, a3⟩
  rw [a1]
  have : yBh σ' p par K g (zs_i σ (p + 5 + x) 1) = yBh σ p par K g (zs_i σ (p + 5 + x) 1) := by
    unfold yBh
    rcases hD x x1 x2 with e | ⟨y, y1, y2, y3⟩
    · rw [if_pos e, if_pos e]
    · rw [y3, nI_clamp (by omega), hr y y1 (by omega)]
  rw [this]
theorem yEq_P {par K : Int32} {g : Nat → Nat → Int32} {s s' : Nat} {σ : zs_S} (hD : ∀ x, s < x → x < s' → zs_i σ (p + 5 + x) 1 = nI s ∨ ∃ y, s + 1 ≤ y ∧ y < x ∧ zs_i σ (p + 5 + x) 1 = nI y) (hs : s' ≤ 50) (hp : par = -1 ∨ ∃ y, y < s ∧ par = nI y) (h : yEq σ p par K g s s') : yEq σ p (nI s) (if zs_r σ (p + 5 + s) 0 = 1108 then nI s else g s 0) g (s + 1) s' := by
  have hne : ∀ y, s ≤ y → y < 50 → ¬ nI y = par := by
    intro y y1 y2 e
    rcases hp with hp | ⟨z, z1, z2⟩
    · exact yn_m1 (by omega) (e.trans hp)
    · have := (nI_eq (by omega) (by omega)).mp (e.trans z2)
      omega
  intro x x1 x2
  obtain ⟨a1, a2⟩ := h x (by omega) x2
  refine ⟨?_, a2⟩
  rw [a1]
  have : yBh σ p par K g (zs_i σ (p + 5 + x) 1) = yBh σ p (nI s) (if zs_r σ (p + 5 + s) 0 = 1108 then nI s else g s 0) g (zs_i σ (p + 5 + x) 1) := by
    unfold yBh
    rcases hD x (by omega) x2 with e | ⟨y, y1, y2, y3⟩
    · rw [e, if_neg (hne s (by omega) (by omega)), if_pos rfl, nI_clamp (by omega)]
    · have hys : ¬ nI y = nI s := fun e => by
        have := (nI_eq (by omega) (by omega)).mp e
        omega
      rw [y3, if_neg (hne y (by omega) (by omega)), if_neg hys]
  rw [this]
/-- a block -/
theorem yx_blk {i s a c e fr d N : Nat} {par e0 : Int32} {σ τ : zs_S} {kR : Int32 → Int32 → zs_S → Option (Int32 × zs_S)} (h : yBq F v n m p q t V L T i s a c e fr par e0 σ τ) (hd : d ≤ 6) (hK : d < 6 → yBR F v n m p q t V L T (d + 1) (zf_Parser_readStatements F (N + 1)) kR) : ∃ ent σ' r τ', zf_Parser_readBlock (zf_Parser_readStatements F (N + 1)) F par (nI d) σ = some (ent, σ') ∧ zf_M_block kR F (nI d) τ = some (r, τ') ∧ ((r = 1 ∧ ∃ i' s' a' c' e' op', yN F v n m p q t V L T i' s' a' c' e' σ' τ' ∧ i < i' ∧ yBO F v n m p q t V L T i s c e fr par e0 σ τ σ' τ' i' s' c' e' op' ∧ ((s' = s ∧ ent = -2) ∨ (s < s' ∧ ent = nI s))) ∨ (r = 0 ∧ yKF p q σ τ σ' τ')) := by
  have h0 := h
  obtain ⟨hN, ⟨hfr, hF⟩, hop, hpt, hv, hpar⟩ := h
  obtain ⟨k1, k2, k3, k4, hA, hp2, hq2⟩ := yN_tok hN
  have hp := hN.1.2.1
  have hq := hN.1.2.2
  obtain ⟨fl1, fl2, fl3⟩ := yN_fl hN
  have d6 : (nI d = (6 : Int32)) = (d = 6) := yn_eq (a := d) (b := 6) (by omega) (by omega)
  have m15 : zf_M_block_15 kR F τ = some (0, zs_wi τ 1 11 (nI (yx_ps v n i))) := by
    unfold zf_M_block_15
    rw [fl2, yq_c, yz_0, yq_g]
  by_cases h6 : d = 6
  · refine ⟨-2, yfl v n i σ, 0, zs_wi τ 1 11 (nI (yx_ps v n i)), ?_, ?_, Or.inr ⟨rfl, yKF_X hp fl3⟩⟩
    · unfold zf_Parser_readBlock
      rw [if_pos (d6.mpr h6), fl1, yq_s]
    · unfold zf_M_block
      rw [yi_1317 hA, yq_c]
      by_cases hh : (yx_tk v n (yx_ps v n i)).1 = 1019
      · rw [if_pos hh, if_neg y01, if_pos (d6.mpr h6), m15]
      · rw [if_neg hh, if_pos y00, m15]
  · have hsz : zs_i σ p 3 = nI s := hN.2.2.2.1.1
    by_cases hh : yx_c v n i = 1019
    · have hi := yB_lt hN.1.1 k4 (by omega) (by omega)
      obtain ⟨τ1, e1, e2, hN1, f1, f2, -⟩ := yN_st hN hi
      have hq1 : yBq F v n m p q t V L T (i + 1) s a c e fr par e0 (yadv v n i σ) τ1 := ⟨hN1, ⟨hfr, hF⟩, (f2.1 _ _ (by omega)).trans hop, (f2.1 _ _ (by omega)).trans hpt, hv, hpar⟩
      obtain ⟨σ2, ⟨r, τ2⟩, e3, e4, hx⟩ := hK (by omega) _ _ _ _ _ _ _ _ _ _ hq1
      have e1x : zf_Parser_expect F 1019 σ = some (yadv v n i σ) := (yy_exp hN.1.1 hN.2.1 hh (by decide) (by decide)).1
      have em : zf_M_block kR F (nI d) τ = zq_g (zq_z r) (some (r, τ2)) := by
        unfold zf_M_block
        rw [yi_1317 hA, yq_c, if_pos (show (yx_tk v n (yx_ps v n i)).1 = 1019 from hh), if_neg y01, if_neg (fun e => h6 (d6.mp e)), hop, nI_pred, yq_v, e2, yq_s, nI_1, e4, yq_c]
      have hsz1 : zs_i (yadv v n i σ) p 3 = nI s := (f1.1 _ _ (by omega) (by omega) (by omega)).trans hsz
      have ec : ∀ σ3 s3, s3 ≤ 50 → s ≤ s3 → zf_Parser_expect F 1020 σ2 = some σ3 → zs_r σ3 7 7 = p → zs_i σ3 p 3 = nI s3 → zf_Parser_readBlock (zf_Parser_readStatements F (N + 1)) F par (nI d) σ = some (if s3 ≤ s then -2 else nI s, σ3) := by
        intro σ3 s3 hs3 hs4 x1 x2 x3
        unfold zf_Parser_readBlock zf_Parser_readBlock_60
        rw [if_neg (fun e => h6 (d6.mp e)), e1x, yq_s, hN1.2.1.2.1, zq_qr (by omega), yp_k hp, yq_g, hsz1, yq_v, nI_1, e3, yq_s, x1, yq_s, x2, zq_qr (by omega), yp_k hp, yq_g, x3]
        by_cases hle : s3 ≤ s
        · rw [if_pos hle, if_pos (nI_le hle (by omega))]
        · rw [if_neg hle, if_neg (nI_ge (by omega) (by omega))]
      rcases hx with ⟨hr, i', s', a', c', e', op', ⟨x1, x2, x3⟩, hO⟩ | ⟨hr, g⟩
      · have hr : r = 1 := hr
        subst hr
        have hss := hO.1
        have hs50 : s' ≤ 50 := x3.2.2.2.1.2.2
        have e5 : zf_Parser_expect F 1020 σ2 = some (yadv v n i' σ2) := (yy_exp hN.1.1 x2 x1 (by decide) (by decide)).1
        have hx3p := x3.2.2.2.1.1
        refine ⟨_, yadv v n i' σ2, 1, τ2, ec _ s' hs50 hss.2.1 e5 x3.2.1.2.1 hx3p, ?_, Or.inl ⟨rfl, i' + 1, s', a', c', e', op', x3, by omega, ?_, ?_⟩⟩
        · rw [em, yz_1, yq_g]
        · obtain ⟨b1, ⟨b2, b3⟩, b4, b5, b6⟩ := hO
          have fa : yfC p c' σ2 (yadv v n i' σ2) := by
            unfold yadv
            exact ⟨fun o k x y z => by rw [yt_ir, yt_in _ _ (by omega)], fun o k x y => by rw [yt_rn _ _ (by omega), yt_ri], fun o k => rfl⟩
          have fb : ∀ x k, x < 50 → zs_i (yadv v n i' σ2) (p + 5 + x) k = zs_i σ2 (p + 5 + x) k := fun x k hx => fa.1 _ _ (by omega) (by omega) (by omega)
          have fr' : ∀ x k, x < 50 → zs_r (yadv v n i' σ2) (p + 5 + x) k = zs_r σ2 (p + 5 + x) k := fun x k hx => fa.2.1 _ _ (by omega) (by omega)
          refine ⟨⟨by omega, b1.2.1, b1.2.2.1, b1.2.2.2.1, b1.2.2.2.2.1, b1.2.2.2.2.2.1, b1.2.2.2.2.2.2⟩, ⟨yfS_t (yfS_C f1) (yfS_t b2 (yfS_C fa) (Nat.le_refl s) (by omega)) (Nat.le_refl s) (Nat.le_refl c), yfT_t (yfT_M (yfM_L f2)) b3 (Nat.le_refl s) (Nat.le_refl e)⟩, ?_, fun x y1 y2 => ⟨?_, ?_⟩, fun hlt g K hE => ?_⟩
          · obtain ⟨c1, c2, c3⟩ := b4
            have ht : ∀ o k, o = 57 ∨ o = q + 13 ∨ o = q + 9 → zs_i τ1 o k = zs_i τ o k := fun o k ho => f2.1 _ _ (by omega)
            refine ⟨fun j hj => (c1 j hj).trans (ht _ _ (by omega)), fun es => ?_, fun es => ?_⟩
            · obtain ⟨d1, d2, d3, d4⟩ := c2 es
              exact ⟨d1, d2.trans (ht _ _ (by omega)), fun k => (d3 k).trans (ht _ _ (by omega)), fun k => (d4 k).trans (ht _ _ (by omega))⟩
            · obtain ⟨d1, d2, d3, d4⟩ := c3 es
              exact ⟨fun k z1 z2 => (d1 k z1 z2).trans (ht _ _ (by omega)), d2, fun k z1 z2 => (d3 k z1 z2).trans (ht _ _ (by omega)), d4⟩
          · exact yST_S (b5 x y1 y2).1 (s := s') y2 hs50 (yfS_C fa) (yfT_r _ _ _) hp hq
          · obtain ⟨d1, d2, d3, d4⟩ := (b5 x y1 y2).2
            refine ⟨?_, ?_, ?_, ?_⟩
            · rw [fb x 1 (by omega)]
              exact d1
            · rw [fb x 5 (by omega)]
              exact d2
            · rw [fb x 6 (by omega)]
              exact d3
            · rw [fb x 7 (by omega)]
              exact d4
          · have hE2 := yEq_F (σ := σ2) (fun x z1 z2 => (b5 x z1 z2).2.1) hs50 (fun x k z1 z2 _ => fb x k (by omega)) (fun x z1 z2 => fr' x 0 (by omega)) hE
            obtain ⟨u1, u2⟩ := b6 hlt g K hE2
            exact ⟨u1, fun x w z1 z2 z3 z4 => u2 x w z1 z2 z3 (by rw [fr' x 0 (by omega)] at z4; exact z4)⟩
        · by_cases hle : s' ≤ s
          · rw [if_pos hle]
            exact Or.inl ⟨by omega, rfl⟩
          · rw [if_neg hle]
            exact Or.inr ⟨by omega, rfl⟩
      · have hr : r = 0 := hr
        subst hr
        obtain ⟨g1, g2, f, g3, g4, g5⟩ := g
        have e5 := yy_kexp (F := F) (x := 1020) g4 (by decide) (by decide)
        refine ⟨if zs_i σ2 p 3 ≤ nI s then -2 else nI s, σ2, 0, τ2, ?_, by rw [em, yz_0, yq_g], Or.inr ⟨rfl, ygC_t (ygC_C f1 hp) g1, ygM_t (ygM_L f2) g2, f, g3, g4, g5⟩⟩
        unfold zf_Parser_readBlock zf_Parser_readBlock_60
        rw [if_neg (fun e => h6 (d6.mp e)), e1x, yq_s, hN1.2.1.2.1, zq_qr (by omega), yp_k hp, yq_g, hsz1, yq_v, nI_1, e3, yq_s, e5, yq_s, g4.2.1, zq_qr (by omega), yp_k hp, yq_g]
        by_cases hle : zs_i σ2 p 3 ≤ nI s
        · rw [if_pos hle, if_pos hle]
        · rw [if_neg hle, if_neg hle]
    · obtain ⟨e5, hk⟩ := yy_nexp (F := F) hN.1.1 hN.2.1 hh (show 1019 < 1200 by decide)
      refine ⟨-2, yfl v n i σ, 0, zs_wi τ 1 11 (nI (yx_ps v n i)), ?_, ?_, Or.inr ⟨rfl, yKF_X hp fl3⟩⟩
      · unfold zf_Parser_readBlock zf_Parser_readBlock_60
        rw [if_neg (fun e => h6 (d6.mp e)), e5, yq_s, hk.2.1, zq_qr (by omega), yp_k hp, yq_g, yq_v, yk_stats hk (by omega), yq_s, yy_kexp hk (by decide) (by decide), yq_s, hk.2.1, zq_qr (by omega), yp_k hp, yq_g, if_pos (Int32.le_refl _)]
      · unfold zf_M_block
        rw [yi_1317 hA, yq_c, if_neg (show ¬ (yx_tk v n (yx_ps v n i)).1 = 1019 from hh), if_pos y00, m15]
end YBA
