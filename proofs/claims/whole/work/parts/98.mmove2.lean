/-! explorer: the reference's step, loops and all kinds -/
section YMU
variable {F n m p q t V L T : Nat} {v : Nat → Nat}
theorem yRs_t {tt s t : Nat} {C : Nat → Int32} {W W1 W2 : Nat × (Nat → Nat → Int32) × (Nat → Int32) × (Nat → Int32) × (Nat → Int32) × Nat × (Nat → Nat) × Bool} {r : Int32} {a b c : zs_S} (h : yfG a b) (ho : W1.2.2.2.2.2.2.2 = W.2.2.2.2.2.2.2) (g : yRs tt q C s t W1 W2 r b c) : yRs tt q C s t W W2 r a c := by
  refine ⟨g.1, yfG_t h g.2.1, ?_⟩
  rcases g.2.2 with ⟨e1, e2, e3⟩ | e
  · exact Or.inl ⟨e1, e2, e3.trans ho⟩
  · exact Or.inr e
theorem yU_c {C : Nat → Int32} {k k' : Nat} {x y : Int32} (h : k ≠ k') : yU (yU C k x) k' y = yU (yU C k' y) k x := by
  funext j
  by_cases e : j = k'
  · rw [e, yU_e, yU_n (Ne.symm h), yU_e]
  · rw [yU_n e]
    by_cases e2 : j = k
    · rw [e2, yU_e, yU_e]
    · rw [yU_n e2, yU_n e2, yU_n e]
theorem yPm_G {tt S : Nat} {B Tt kd tg : Nat → Nat} {wy : Nat → Nat → Int32} {ex : Nat → List (Nat × Int32)} {τ τ' : zs_S} (hq : yQQ q) (hpp : yPp V L tt S B Tt kd tg wy ex) (hf : yfG τ τ') (h : yPm τ q V L tt S B Tt kd tg wy ex) : yPm τ' q V L tt S B Tt kd tg wy ex := by
  have hq2 := yQQ_b hq
  have hq3 : q = 3 ∨ q = 30 := hq
  exact yPm_F hq hpp (fun o k w1 w2 => hf.1 o k (by omega) (by omega) (by omega) (by omega)) h
theorem ym_wk {s t x tt S : Nat} {B Tt kd tg : Nat → Nat} {wy : Nat → Nat → Int32} {ex : Nat → List (Nat × Int32)} {C : Nat → Int32} (hq : yQQ q) (hF : 7000 < F) (hpp : yPp V L tt S B Tt kd tg wy ex) (ht : t < tt) (x1 : B t ≤ x) (x2 : x < B (t + 1)) (hv : yRV tt B kd C) (htg : 8 ≤ tg x ∧ tg x < 12) (hk4 : kd x = 4) (m0 : C (16 + t) = 0) : ∀ d j N (W : Nat × (Nat → Nat → Int32) × (Nat → Int32) × (Nat → Int32) × (Nat → Int32) × Nat × (Nat → Nat) × Bool) τ (x4 : Int32), j + d = tt → d < N → yMx τ tt q W C s t → yPm τ q V L tt S B Tt kd tg wy ex → yWV tt B kd W → s < W.1 → W.2.2.2.2.2.1 + (ywf tg C (tg x) j d).length + 1 ≤ 3200 → (x4 = 1 ∨ (x4 = 0 ∧ yXt τ tt C)) → ∃ (r : Int32) (τ' : zs_S), zf_M_wake_5 F N (nI x) (nI (tg x - 8)) x4 (nI j) τ = some (r, τ') ∧ yRs tt q C s t W ((if x4 = 0 ∧ ywf tg C (tg x) j d = [] then [yU C (12 + t) (wy x 0)] else ywk C t (wy x 0) (ywf tg C (tg x) j d)).foldl (ykp s (nI t)) W) r τ τ' := by
  have hq2 := yQQ_b hq
  have h4 : tt ≤ 4 := hpp.1.2.2.2.1
  have hBt := hpp.2.1.2.2.2 (t + 1) (by omega)
  have hS50 := hpp.1
  have hb50 : B (t + 1) ≤ 50 := by omega
  obtain ⟨-, -, -, q4, -⟩ := hpp.2.2.2 t x ht x1 x2
  have hvl : yVl (1100 + kd x) 0 := Or.inl ⟨rfl, by omega, by omega, by omega⟩
  have hw0 := q4 0 (by omega) hvl
  have hr0 : yRV tt B kd (yU C (12 + t) (wy x 0)) := yRV_pl hv ht h4 m0 hb50 hw0
  intro d
  induction d with
  | zero =>
    intro j N W τ x4 h1 h2 h3 h5 h6 h7 h8 h9
    obtain ⟨N, rfl⟩ : ∃ q, N = q + 1 := ⟨N - 1, by omega⟩
    have hj : j = tt := by omega
    rw [zf_M_wake_5, h3.2.2.1, zq_qr (by omega), yv_k hq, yq_g, h5.1.2.2.1, hj, if_pos (nI_le (Nat.le_refl _) (by omega))]
    rcases h9 with e | ⟨e, hX⟩
    · rw [if_neg (by rw [e]; decide), if_neg (fun hh => by rw [e] at hh; exact absurd hh.1 (by decide))]
      exact ⟨1, τ, rfl, yz_1, yfG_r τ, Or.inl ⟨rfl, h3, rfl⟩⟩
    · rw [if_pos e, if_pos ⟨e, rfl⟩]
      exact ym_gr (F := F) (w := 0) hq hpp ⟨h3, h5, hX⟩ ht x1 x2 (by omega) hvl h6 hr0 h7 (by omega) (by omega)
  | succ d ih =>
    intro j N W τ x4 h1 h2 h3 h5 h6 h7 h8 h9
    obtain ⟨N, rfl⟩ : ∃ q, N = q + 1 := ⟨N - 1, by omega⟩
    have hjt : j < tt := by omega
    have hwt := ym_wf (F := F) (x := x) hq hpp h5 h3.2.1 h3.2.2.1 hjt hv htg
    rw [zf_M_wake_5, h3.2.2.1, zq_qr (by omega), yv_k hq, yq_g, h5.1.2.2.1, if_neg (nI_ge hjt (by omega)), hwt, yq_c]
    unfold zf_M_wake_75 zf_M_each
    by_cases hw : yw1 tg C (tg x) j = true
    · have ewf : ywf tg C (tg x) j (d + 1) = j :: ywf tg C (tg x) (j + 1) d := by
        show (if yw1 tg C (tg x) j = true then _ else _) = _
        rw [if_pos hw]
      rw [ewf] at h8 ⊢
      rw [if_pos hw, if_neg y01, if_neg (fun hh => absurd hh.2 (List.cons_ne_nil _ _))]
      rw [List.length_cons] at h8
      have hwj := (yw1_i.mp hw).1
      have hjt2 : j ≠ t := fun e => by
        rw [e, m0] at hwj
        exact absurd hwj (by decide)
      have hy : ∃ y, B j ≤ y ∧ y < B (j + 1) ∧ C (12 + j) = nI y ∧ kd y = 3 := by
        rcases hv.2.2.2.1 j hjt with hh | ⟨-, hh⟩
        · rw [hh] at hwj
          exact absurd hwj (by decide)
        · exact hh
      have hrj : yRV tt B kd (yU (yU C (16 + j) 2) (12 + t) (wy x 0)) := yRV_pl (yRV_md hv hjt h4 (Or.inr ⟨Or.inr rfl, hy⟩)) ht h4 (by rw [yU_n (by omega)]; exact m0) hb50 hw0
      obtain ⟨a1, a2⟩ := yMy_c (D := C) hq hpp h3 h5
      obtain ⟨b1, b2⟩ := yMy_w (k := 16 + j) (y := 2) hq hpp a1 (by omega) (by omega)
      rw [(ypi_pl j (by omega)).2] at b1 b2
      obtain ⟨τ1, g1, g2, g3, g4⟩ := ym_go (F := F) (w := 0) hq hpp b1.2.1 b1.1.2.2.1 b1.1.2.2.2.2 ht x1 x2 (by omega) hvl b1.2.2 (s := s)
      have g1' : zf_M_goOn F (nI x) 0 (zs_wi (zs_cp τ 64 65 0 0 34) 65 (12 + 5 * j + 4) 2) = some τ1 := g1
      have hf : yf6 _ τ1 := ⟨fun o k w1 w2 => g3 o k w1, g4⟩
      obtain ⟨r, τ2, e1, e2⟩ := ym_fin (F := F) (yMy_F hq hpp hf g2 b1) h6 hrj h7 (by omega) (by omega)
      have e3 := yRs_6 (yf6_t a2 (yf6_t b2 hf)) e2
      rw [ym_cpg, yq_g, ym_cp0, ym_cp34, yq_v, yq_c, show (12 : Int32) + 5 * nI j + 4 = nI (12 + 5 * j + 4) from yn_ea j 4, yn_b (show 12 + 5 * j + 4 < 34 by omega) (by decide), yq_g, nI_clamp (by omega), yq_v, g1', yq_s, e1, yq_c]
      show ∃ (r : Int32) (τ' : zs_S), _ = some (r, τ') ∧ yRs tt q C s t W ((ywk C t (wy x 0) (ywf tg C (tg x) (j + 1) d)).foldl (ykp s (nI t)) (ykp s (nI t) W (yU (yU C (16 + j) 2) (12 + t) (wy x 0)))) r τ τ'
      rcases e3.2.2 with ⟨r1, k1, k2⟩ | ⟨r1, k1⟩
      · rw [if_neg (by rw [r1]; decide), nI_1, yq_v]
        have gg := ykp_g (s := s) (x2 := nI t) (W := W) (X := yU (yU C (16 + j) 2) (12 + t) (wy x 0))
        obtain ⟨r', τ', z1, z2⟩ := ih (j + 1) N (ykp s (nI t) W (yU (yU C (16 + j) 2) (12 + t) (wy x 0))) τ2 1 (by omega) (by omega) k1 (yPm_G hq hpp e3.2.1 h5) (yWV_k h6 hrj) (by omega) (by omega) (Or.inl rfl)
        rw [if_neg (fun hh => absurd hh.1 (by decide))] at z2
        exact ⟨r', τ', z1, yRs_t e3.2.1 k2 z2⟩
      · rw [if_pos r1]
        exact ⟨0, τ2, rfl, yz_0, e3.2.1, Or.inr ⟨rfl, ykp_l.2.2.2.2 k1⟩⟩
    · have ewf : ywf tg C (tg x) j (d + 1) = ywf tg C (tg x) (j + 1) d := by
        show (if yw1 tg C (tg x) j = true then _ else _) = _
        rw [if_neg hw]
      rw [ewf] at h8 ⊢
      rw [if_neg hw, if_pos y00, nI_1, yq_v]
      exact ih (j + 1) N W τ x4 (by omega) (by omega) h3 h5 h6 h7 h8 h9
theorem ym_wa {s t x tt S : Nat} {B Tt kd tg : Nat → Nat} {wy : Nat → Nat → Int32} {ex : Nat → List (Nat × Int32)} {C : Nat → Int32} {W : Nat × (Nat → Nat → Int32) × (Nat → Int32) × (Nat → Int32) × (Nat → Int32) × Nat × (Nat → Nat) × Bool} (hq : yQQ q) (hF : 7000 < F) (hpp : yPp V L tt S B Tt kd tg wy ex) (ht : t < tt) (x1 : B t ≤ x) (x2 : x < B (t + 1)) (hv : yRV tt B kd C) (htg : 8 ≤ tg x ∧ tg x < 12) (hk5 : kd x = 5) (hW : yWV tt B kd W) (hs : s < W.1) (hK : W.2.2.2.2.2.1 < 3200) : ∀ d j N τ D, j + d = tt → d < N → yMy τ q V L tt S B Tt kd tg wy ex W C s t D → yRV tt B kd (yU (ywa tg C (tg x) D j d) (12 + t) (wy x 0)) → ∃ (r : Int32) (τ' : zs_S), zf_M_move_308 F N (nI x) (nI (tg x - 8)) (nI j) τ = some (r, τ') ∧ yRs tt q C s t W (ykp s (nI t) W (yU (ywa tg C (tg x) D j d) (12 + t) (wy x 0))) r τ τ' := by
  have hq2 := yQQ_b hq
  have h4 : tt ≤ 4 := hpp.1.2.2.2.1
  have hvl : yVl (1100 + kd x) 0 := Or.inl ⟨rfl, by omega, by omega, by omega⟩
  intro d
  induction d with
  | zero =>
    intro j N τ D h1 h2 h3 h5
    obtain ⟨N, rfl⟩ : ∃ q, N = q + 1 := ⟨N - 1, by omega⟩
    have hj : j = tt := by omega
    rw [zf_M_move_308, h3.1.2.2.1, zq_qr (by omega), yv_k hq, yq_g, h3.2.1.1.2.2.1, hj, if_pos (nI_le (Nat.le_refl _) (by omega))]
    exact ym_gr (F := F) (w := 0) hq hpp h3 ht x1 x2 (by omega) hvl hW h5 hs hK (by omega)
  | succ d ih =>
    intro j N τ D h1 h2 h3 h5
    obtain ⟨N, rfl⟩ : ∃ q, N = q + 1 := ⟨N - 1, by omega⟩
    have hjt : j < tt := by omega
    have hwt := ym_wf (F := F) (x := x) hq hpp h3.2.1 h3.1.2.1 h3.1.2.2.1 hjt hv htg
    have ewa : ywa tg C (tg x) D j (d + 1) = ywa tg C (tg x) (if yw1 tg C (tg x) j = true then yU D (16 + j) 2 else D) (j + 1) d := rfl
    rw [ewa] at h5 ⊢
    rw [zf_M_move_308, h3.1.2.2.1, zq_qr (by omega), yv_k hq, yq_g, h3.2.1.1.2.2.1, if_neg (nI_ge hjt (by omega)), hwt, yq_c]
    unfold zf_M_move_343 zf_M_each
    by_cases hw : yw1 tg C (tg x) j = true
    · rw [if_pos hw] at h5
      obtain ⟨b1, b2⟩ := yMy_w (k := 16 + j) (y := 2) hq hpp h3 (by omega) (by omega)
      rw [(ypi_pl j (by omega)).2] at b1 b2
      obtain ⟨r, τ', z1, z2⟩ := ih (j + 1) N _ _ (by omega) (by omega) b1 h5
      rw [if_pos hw, if_pos hw, if_neg y01, yq_c, show (12 : Int32) + 5 * nI j + 4 = nI (12 + 5 * j + 4) from yn_ea j 4, yn_b (show 12 + 5 * j + 4 < 34 by omega) (by decide), yq_g, nI_clamp (by omega), yq_v, nI_1, yq_v]
      exact ⟨r, τ', z1, yRs_6 b2 z2⟩
    · rw [if_neg hw] at h5
      rw [if_neg hw, if_neg hw, if_pos y00, nI_1, yq_v]
      exact ih (j + 1) N τ D (by omega) (by omega) h3 h5
end YMU
