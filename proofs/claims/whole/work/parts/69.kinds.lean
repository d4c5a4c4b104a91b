/-! statements without blocks -/
section YKA
variable {F n m p q t V L T : Nat} {v : Nat → Nat}
theorem yN_o {i s a c e : Nat} {σ τ σ' τ' : zs_S} (h : yN F v n m p q t V L T i s a c e σ τ) (hi : ∀ o k, ¬ (p + 5 ≤ o ∧ o < p + 55) → zs_i σ' o k = zs_i σ o k) (hr : ∀ o k, ¬ (p + 5 ≤ o ∧ o < p + 55) → zs_r σ' o k = zs_r σ o k) (hl : ∀ o k, zs_l σ' o k = zs_l σ o k) (ht : ∀ o k, ¬ (o = 1 ∧ k = 16) → ¬ (q + 9 ≤ o ∧ o ≤ q + 13) → o ≠ 57 → zs_i τ' o k = zs_i τ o k) (htr : ∀ o k, zs_r τ' o k = zs_r τ o k) : yN F v n m p q t V L T i s a c e σ' τ' := by
  obtain ⟨⟨h1, hp, hq⟩, h4, h5, ⟨h6, h7, h8⟩, ⟨h9, h9b, h9c⟩, ⟨h10, h10b⟩, ⟨h11, h11b⟩, h12⟩ := h
  have hp2 := yPP_b hp
  have hq2 := yQQ_b hq
  obtain ⟨b1, b2, b3, b4, b5, b6, b7⟩ := h4
  refine ⟨⟨h1, hp, hq⟩, ⟨(hr _ _ (by omega)).trans b1, (hr _ _ (by omega)).trans b2, (hi _ _ (by omega)).trans b3, (hi _ _ (by omega)).trans b4, (hr _ _ (by omega)).trans b5, b6, yx_rowsF b7 (fun k => hr _ _ (by omega)) (fun k => hi _ _ (by omega)) (fun k => hl _ _)⟩, yM_L h5 (fun k => ht _ _ (by omega) (by omega) (by omega)) (fun k _ _ => ht _ _ (by omega) (by omega) (by omega)) (htr _ _), ⟨(hi _ _ (by omega)).trans h6, (ht _ _ (by omega) (by omega) (by omega)).trans h7, h8⟩, ⟨(hi _ _ (by omega)).trans h9, (ht _ _ (by omega) (by omega) (by omega)).trans h9b, h9c⟩, ⟨(hi _ _ (by omega)).trans h10, h10b⟩, ⟨(ht _ _ (by omega) (by omega) (by omega)).trans h11, h11b⟩, yNm_F h12 (fun k => hl _ _) (fun k => hi _ _ (by omega)) (hi _ _ (by omega)) (hi _ _ (by omega)) (htr _ _) (fun o k x y => ht _ _ (by omega) (by omega) (by omega)) (fun o k x y => ht _ _ (by omega) (by omega) (by omega))⟩
/-- a statement's kind has been read: before its follow is set -/
def yKD (F : Nat) (v : Nat → Nat) (n m p q t V L T i s c e fr : Nat) (par : Int32) (σ τ : zs_S) (r : Int32) (σ' τ' : zs_S) : Prop := (r = 1 ∧ ∃ i' s' a' c' e' op', yN F v n m p q t V L T i' s' a' c' e' σ' τ' ∧ (i < i' ∧ s < s' ∧ c ≤ c' ∧ e ≤ e' ∧ fr ≤ op' ∧ op' + 2 * s ≤ fr + 2 * s' ∧ zs_i τ' 1 16 = nI op') ∧ (yfS p s c σ σ' ∧ yfT q s e τ τ') ∧ ((∀ k, k < 3 * s → zs_i τ' (q + 13) k = zs_i τ (q + 13) k) ∧ (∀ y, y < 4 → zs_i τ' (q + 9) y = zs_i τ (q + 9) y) ∧ (∀ j, j < fr → zs_i τ' 57 j = zs_i τ 57 j)) ∧ (zs_i σ' (p + 5 + s) 1 = par ∧ zs_i σ' (p + 5 + s) 7 = -2) ∧ (∀ x, s ≤ x → x < s' → yST σ' τ' p q t V L T c' e' x) ∧ (yIn (zs_i σ' (p + 5 + s) 5) (s + 1) s' ∧ yIn (zs_i σ' (p + 5 + s) 6) (s + 1) s') ∧ (∀ x, s < x → x < s' → yD2 σ' p (nI s) (s + 1) s' x) ∧ (∀ g, yE12 σ' p g s → yEq σ' p (nI s) (if zs_r σ' (p + 5 + s) 0 = 1108 then nI s else g s 0) g (s + 1) s' → yPn σ' τ' p q (g s 0) g fr op' s s')) ∨ (r = 0 ∧ yKF p q σ τ σ' τ')
/-- what stands ahead of it -/
def yPr (F : Nat) (v : Nat → Nat) (n m p q t V L T i s a c e fr : Nat) (par : Int32) (σ τ : zs_S) : Prop := yN F v n m p q t V L T i (s + 1) a c e σ τ ∧ (e ≤ 2 * c + s ∧ fr ≤ 2 * s + 1 ∧ s < 50 ∧ 1700 < F) ∧ zs_i τ 1 16 = nI fr ∧ zs_i σ (p + 5 + s) 1 = par ∧ zs_i σ (p + 5 + s) 5 = -2 ∧ zs_i σ (p + 5 + s) 6 = -2 ∧ zs_i σ (p + 5 + s) 7 = -2 ∧ zs_i σ (p + 5 + s) 8 = 0
theorem yKD_s {i s a c e fr i' a' c' e' op' : Nat} {par : Int32} {σ τ σ' τ' : zs_S} (h : yPr F v n m p q t V L T i s a c e fr par σ τ) (hN : yN F v n m p q t V L T i' (s + 1) a' c' e' σ' τ') (hn : i < i' ∧ c ≤ c' ∧ e ≤ e') (ho : zs_i τ' 1 16 = nI op') (hf : yfS p s c σ σ' ∧ yfT q s e τ τ') (hto : ∀ k, zs_i τ' (q + 13) k = zs_i τ (q + 13) k) (hst : ∀ y, zs_i τ' (q + 9) y = zs_i τ (q + 9) y) (hop : ∀ j, j < fr → zs_i τ' 57 j = zs_i τ 57 j) (hob : ∀ k, k = 1 ∨ k = 5 ∨ k = 6 ∨ k = 7 → zs_i σ' (p + 5 + s) k = zs_i σ (p + 5 + s) k) (hS : yST σ' τ' p q t V L T c' e' s) (hk : (zs_r σ' (p + 5 + s) 0 = 1109 ∧ op' = fr) ∨ ((zs_r σ' (p + 5 + s) 0 ≠ 1107 ∧ zs_r σ' (p + 5 + s) 0 ≠ 1108 ∧ zs_r σ' (p + 5 + s) 0 ≠ 1109) ∧ op' = fr + 1 ∧ zs_i τ' 57 fr = nI (3 * s))) : yKD F v n m p q t V L T i s c e fr par σ τ 1 σ' τ' := by
  obtain ⟨-, h2, h3, h4, h5, h6, h7, h8⟩ := h
  have hop2 : fr ≤ op' ∧ op' ≤ fr + 1 := by
    rcases hk with ⟨-, k⟩ | ⟨-, k, -⟩ <;> omega
  refine Or.inl ⟨rfl, i', s + 1, a', c', e', op', hN, ⟨by omega, by omega, by omega, by omega, by omega, by omega, ho⟩, hf, ⟨fun k _ => hto k, fun y _ => hst y, hop⟩, ⟨(hob 1 (by omega)).trans h4, (hob 7 (by omega)).trans h7⟩, fun x x1 x2 => ?_, ⟨Or.inl ((hob 5 (by omega)).trans h5), Or.inl ((hob 6 (by omega)).trans h6)⟩, fun x x1 x2 => by omega, fun g g1 g2 => ⟨fun j j1 j2 => ?_, fun x w x1 x2 w1 vl => ?_⟩⟩
  · have : x = s := by omega
    subst this
    exact hS
  · rcases hk with ⟨k1, k2⟩ | ⟨k1, k2, k3⟩
    · omega
    · have : j = fr := by omega
      subst this
      exact ⟨s, 0, by omega, by omega, by omega, k3, rfl⟩
  · have : x = s := by omega
    subst this
    rcases hk with ⟨k1, k2⟩ | ⟨⟨k1, k1b, k1c⟩, k2, k3⟩
    · rcases vl with ⟨-, -, -, v1⟩ | ⟨-, v1 | v1⟩
      · exact absurd k1 v1
      · rw [k1] at v1
        exact absurd v1 (by decide)
      · rw [k1] at v1
        exact absurd v1 (by decide)
    · rcases vl with ⟨w0, -⟩ | ⟨-, v1 | v1⟩
      · subst w0
        exact Or.inl ⟨fr, by omega, by omega, k3⟩
      · exact absurd v1 k1
      · exact absurd v1 k1b
theorem ytk_ne {i a b : Nat} (h : yx_c v n i = a) (hab : a ≠ b) : ¬ (yx_tk v n (yx_ps v n i)).1 = b := fun e => hab (h.symm.trans e)
theorem yn_3 (s : Nat) : 3 * nI s = nI (3 * s) := yn_mul 3 s
/-- push -/
def yps (τ : zs_S) (fr x : Nat) : zs_S := zs_wi (zs_wi τ 1 16 (nI (fr + 1))) 57 fr (nI x)
theorem yps_i {τ : zs_S} {fr x o k : Nat} (h : ¬ (o = 1 ∧ k = 16)) (h2 : ¬ (o = 57 ∧ k = fr)) : zs_i (yps τ fr x) o k = zs_i τ o k := by
  unfold yps
  rw [yt_in _ _ h2, yt_in _ _ h]
theorem yps_o {τ : zs_S} {fr x : Nat} : zs_i (yps τ fr x) 1 16 = nI (fr + 1) := by
  unfold yps
  rw [yt_in _ _ (by omega), yt_ie]
theorem yps_e {τ : zs_S} {fr x : Nat} : zs_i (yps τ fr x) 57 fr = nI x := by
  unfold yps
  rw [yt_ie]
/-- stop -/
theorem ykd_stop {i s a c e fr : Nat} {par x2 : Int32} {σ τ : zs_S} {kS : Int32 → Int32 → zs_S → Option (Int32 × zs_S)} (h : yPr F v n m p q t V L T i s a c e fr par σ τ) (hc : yx_c v n i = 1018) : yr (zf_Parser_readStop F (p + 5 + s) σ) (zf_M_statement kS F (nI s) x2 τ) (fun σ' r => yKD F v n m p q t V L T i s c e fr par σ τ r.1 σ' r.2) := by
  have h0 := h
  obtain ⟨hN, ⟨he, hfr, hs, hF⟩, hop, o1, o5, o6, o7, o8⟩ := h
  obtain ⟨k1, k2, k3, k4, hA, hp2, hq2⟩ := yN_tok hN
  have hp := hN.1.2.1
  have hq := hN.1.2.2
  have hi := yB_lt hN.1.1 k4 (by omega) (by omega)
  have hN1 : yN F v n m p q t V L T i (s + 1) a c e (zs_wr σ (p + 5 + s) 0 1109) (zs_wi τ (q + 10) s 9) := yN_o hN (fun o k x => rfl) (fun o k x => yt_rn _ _ (by omega)) (fun o k => rfl) (fun o k x y z => yt_in _ _ (by omega)) (fun o k => rfl)
  obtain ⟨τ1, e1, e2, hN2, f1, f2, -⟩ := yN_st hN1 hi
  have ec : zf_Parser_readStop F (p + 5 + s) σ = zf_Parser_expect F 1023 (yadv v n i (zs_wr σ (p + 5 + s) 0 1109)) := by
    unfold zf_Parser_readStop
    rw [yp_sk hp hs, yq_g, yq_v, e1, yq_s, yq_d]
  have em : zf_M_statement kS F (nI s) x2 τ = zq_c (zf_M_take F 1316 τ1) fun r71 σ70 => zq_g (zq_z r71) <| some (r71, σ70) := by
    unfold zf_M_statement
    rw [yi_1310 hA, yq_c, if_neg (ytk_ne hc (by decide)), if_pos y00, yi_1312 hA, yq_c, if_neg (ytk_ne hc (by decide)), if_pos y00, yi_1313 hA, yq_c, if_pos (show (yx_tk v n (yx_ps v n i)).1 = 1018 from hc), if_neg y01, hN.2.2.1.2.2.1, zq_qr (by omega), yv_k hq, yq_g, yv_r7 hq, zq_qr (by omega), yv_k10 hq, yq_g, yv_z10 hq, yn_b hs (by decide), yq_g, nI_clamp (by omega), yq_v, e2, yq_s]
  rw [ec, em]
  have fS : yfS p s c σ (zs_wr σ (p + 5 + s) 0 1109) := ⟨fun o k _ _ _ _ _ => rfl, fun o k _ _ _ => yt_rn _ _ (by omega), fun o k => rfl⟩
  have fT : yfT q s e τ (zs_wi τ (q + 10) s 9) := ⟨fun o k _ _ _ _ _ => yt_in _ _ (by omega), fun o k => rfl⟩
  rcases yN_ex hN2 (yi_1316 hN2.2.2.1.1) (by decide) (by decide) (by decide) with ⟨-, τ3, x1, x2, x3, x4, x5, x6⟩ | ⟨x1, x2, x3⟩
  · rw [x1, x2, yq_c, yz_1, yq_g]
    have hti : ∀ o k, ¬ (o = 1 ∧ 6 ≤ k ∧ k ≤ 10) → ¬ (o = q + 10 ∧ k = s) → zs_i τ3 o k = zs_i τ o k := fun o k w1 w2 => by rw [x5.1 o k w1, f2.1 o k w1, yt_in _ _ w2]
    have hci : ∀ k, zs_i (yadv v n (i + 1) (yadv v n i (zs_wr σ (p + 5 + s) 0 1109))) (p + 5 + s) k = zs_i σ (p + 5 + s) k := fun k => by rw [x4.1 _ _ (by omega) (by omega) (by omega), f1.1 _ _ (by omega) (by omega) (by omega), yt_ir]
    have hcr : zs_r (yadv v n (i + 1) (yadv v n i (zs_wr σ (p + 5 + s) 0 1109))) (p + 5 + s) 0 = 1109 := by rw [x4.2.1 _ _ (by omega) (by omega), f1.2.1 _ _ (by omega) (by omega), yt_re]
    have hk9 : zs_i τ3 (q + 10) s = nI 9 := by rw [x5.1 _ _ (by omega), f2.1 _ _ (by omega), yt_ie]; rfl
    refine yr_i rfl rfl (yKD_s h0 x3 (by omega) (op' := fr) ((hti _ _ (by omega) (by omega)).trans hop) ⟨yfS_t fS (yfS_t (yfS_C f1) (yfS_C x4) (Nat.le_refl s) (Nat.le_refl c)) (Nat.le_refl s) (Nat.le_refl c), yfT_t fT (yfT_t (yfT_M (yfM_L f2)) (yfT_M (yfM_L x5)) (Nat.le_refl s) (Nat.le_refl e)) (Nat.le_refl s) (Nat.le_refl e)⟩ (fun k => hti _ _ (by omega) (by omega)) (fun k => hti _ _ (by omega) (by omega)) (fun j _ => hti _ _ (by omega) (by omega)) (fun k _ => hci k) ⟨9, by omega, hcr, hk9, fun k => by omega, fun k => by omega, fun k => by omega, fun _ => (hci 8).trans o8⟩ (Or.inl ⟨hcr, rfl⟩))
  · rw [x1, x2, yq_c, yz_0, yq_g]
    exact yr_i rfl rfl (Or.inr ⟨rfl, yKF_t (ygC_t (ygC_S hp fS) (ygC_C f1 hp)) (ygM_t (ygM_T fT) (ygM_L f2)) (yKF_X hp x3)⟩)
end YKA
