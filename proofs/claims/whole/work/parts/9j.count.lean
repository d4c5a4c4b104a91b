/-! the questions: first, count -/
section YQC
variable {F n m p q t V L T : Nat} {v : Nat → Nat}
def yAq (x y : Option (Int32 × zs_S)) (σ τ : zs_S) : Prop := ∃ (r : Int32) (τ' : zs_S), x = some (r, σ) ∧ y = some (r, τ') ∧ yfQ τ τ'
theorem yAq_n {x y : Option (Int32 × zs_S)} {σ τ : zs_S} (h : yAn x y σ τ) : yAq x y σ τ := by
  obtain ⟨r, h1, h2⟩ := h
  exact ⟨r, τ, h1, h2, yfQ_r τ⟩
theorem yAq_t {x y : Option (Int32 × zs_S)} {σ τ τ1 : zs_S} (h : yfQ τ τ1) (g : yAq x y σ τ1) : yAq x y σ τ := by
  obtain ⟨r, τ', h1, h2, h3⟩ := g
  exact ⟨r, τ', h1, h2, yfQ_t h h3⟩
theorem yQx_Q {tt S : Nat} {B Tt kd tg : Nat → Nat} {wy : Nat → Nat → Int32} {ex : Nat → List (Nat × Int32)} {W : Nat × (Nat → Nat → Int32) × (Nat → Int32) × (Nat → Int32) × (Nat → Int32) × Nat × (Nat → Nat) × Bool} {fn : Nat → Nat} {σ τ τ' : zs_S} (h : yQx σ τ p q V L tt S B Tt kd tg wy ex W fn) (g : yfQ τ τ') : yQx σ τ' p q V L tt S B Tt kd tg wy ex W fn := yQx_F h (fun _ _ _ => rfl) (fun _ _ => rfl) (fun o k w _ => g.1 o k w) g.2
theorem yq_first {tt S : Nat} {B Tt kd tg : Nat → Nat} {wy : Nat → Nat → Int32} {ex : Nat → List (Nat × Int32)} {W : Nat × (Nat → Nat → Int32) × (Nat → Int32) × (Nat → Int32) × (Nat → Int32) × Nat × (Nat → Nat) × Bool} {fn : Nat → Nat} {σ τ : zs_S} {a : Int32} (hF : 7000 < F) (h : yQx σ τ p q V L tt S B Tt kd tg wy ex W fn) : yAq (zf_S_first F a σ) (zf_M_first F a τ) σ τ := by
  have hZ : W.1 ≤ 800 := h.2.2.2.2.2.2.2.1.2.2.1.1
  have loop : (a = 0 ∨ a = 1 ∨ a = 2) → ∀ d s N N' τ, s + d = W.1 → d < N → d < N' → yQx σ τ p q V L tt S B Tt kd tg wy ex W fn → yAq (zf_S_first_13 F N a (nI s) σ) (zf_M_first_13 F N' a (nI s) τ) σ τ := by
    intro ha d
    induction d with
    | zero =>
      intro s N N' τ h1 h2 h3 h4
      obtain ⟨N, rfl⟩ : ∃ q, N = q + 1 := ⟨N - 1, by omega⟩
      obtain ⟨N', rfl⟩ : ∃ q, N' = q + 1 := ⟨N' - 1, by omega⟩
      have f := h4.2.2.2.2.2.2.2.1
      rw [zf_S_first_13, zf_M_first_13, f.1.1.1.1.1, f.2.1.1.1, if_pos (nI_le (by omega) (by omega)), if_pos (nI_le (by omega) (by omega))]
      exact ⟨-2, τ, rfl, rfl, yfQ_r τ⟩
    | succ d ih =>
      intro s N N' τ h1 h2 h3 h4
      obtain ⟨N, rfl⟩ : ∃ q, N = q + 1 := ⟨N - 1, by omega⟩
      obtain ⟨N', rfl⟩ : ∃ q, N' = q + 1 := ⟨N' - 1, by omega⟩
      have f := h4.2.2.2.2.2.2.2.1
      obtain ⟨z, τ1, g1, g2, -, g3⟩ := ym_sort (F := F) (by omega) h4 (show s < W.1 by omega)
      have gx := yx_sort (F := F) (by omega) h4 (show s < W.1 by omega) g3 ha
      rw [zf_S_first_13, zf_M_first_13, f.1.1.1.1.1, f.2.1.1.1, if_neg (nI_ge (by omega) (by omega)), if_neg (nI_ge (by omega) (by omega)), gx, yq_c, g1, yq_c]
      by_cases e : z = a
      · rw [if_pos e, if_neg y01, if_pos e]
        exact ⟨nI s, τ1, rfl, rfl, g2⟩
      · rw [if_neg e, if_pos y00, if_neg e, nI_1, yq_v, yq_v]
        exact yAq_t g2 (ih (s + 1) N N' τ1 (by omega) (by omega) (by omega) (yQx_Q h4 g2))
  have hin := yq_in (F := F) (x := a) (τ := τ) (Z := 3) (by omega)
  unfold zf_S_first zf_S_first_9 zf_M_first
  rcases hin with ⟨k, k1, k2, k3, k4, k5, k6⟩ | ⟨e2, k3 | ⟨k3, k4, k5⟩⟩
  · have hle : a ≤ 2 := by rw [k2]; exact nI_le (b := 2) (by omega) (by decide)
    have k6' : zf_M_in F a 0 2 τ = some (1, τ) := k6
    have ha : a = 0 ∨ a = 1 ∨ a = 2 := by
      have hk : k = 0 ∨ k = 1 ∨ k = 2 := by omega
      rcases hk with e | e | e
      · exact Or.inl (by rw [k2, e]; rfl)
      · exact Or.inr (Or.inl (by rw [k2, e]; rfl))
      · exact Or.inr (Or.inr (by rw [k2, e]; rfl))
    rw [if_neg k3, if_pos hle, k6', yq_c, if_neg y01]
    exact loop ha W.1 0 F F τ (by omega) (by omega) (by omega) h
  · have e2' : zf_M_in F a 0 2 τ = some (0, τ) := e2
    rw [e2', yq_c, if_pos y00, if_pos k3]
    exact ⟨-1, τ, rfl, rfl, yfQ_r τ⟩
  · have e2' : zf_M_in F a 0 2 τ = some (0, τ) := e2
    have hle : ¬ a ≤ 2 := by
      obtain ⟨n, n1, n2⟩ := nI_of k3
      rw [n2] at k4 ⊢
      have := (nI_leI (a := 3) (b := n) (by omega) n1).mp k4
      exact fun hh => by
        have := (nI_leI (a := n) (b := 2) n1 (by omega)).mp hh
        omega
    rw [e2', yq_c, if_pos y00, if_neg k3, if_neg hle]
    exact ⟨-1, τ, rfl, rfl, yfQ_r τ⟩
/-- how many states of a sort -/
theorem yq_cs {tt S : Nat} {B Tt kd tg : Nat → Nat} {wy : Nat → Nat → Int32} {ex : Nat → List (Nat × Int32)} {W : Nat × (Nat → Nat → Int32) × (Nat → Int32) × (Nat → Int32) × (Nat → Int32) × Nat × (Nat → Nat) × Bool} {fn : Nat → Nat} {σ τ : zs_S} {x y : Int32} (hF : 7000 < F) (h : yQx σ τ p q V L tt S B Tt kd tg wy ex W fn) (hx : x = 0 ∨ x = 1 ∨ x = 2) (hy : y - 2 = x) : yAq (zf_S_countSort F x σ) (zf_M_count_225 F F y 0 0 τ) σ τ := by
  have hZ : W.1 ≤ 800 := h.2.2.2.2.2.2.2.1.2.2.1.1
  have loop : ∀ d s N N' c τ, s + d = W.1 → d < N → d < N' → yQx σ τ p q V L tt S B Tt kd tg wy ex W fn → yAq (zf_S_countSort_4 F N x c (nI s) σ) (zf_M_count_225 F N' y c (nI s) τ) σ τ := by
    intro d
    induction d with
    | zero =>
      intro s N N' c τ h1 h2 h3 h4
      obtain ⟨N, rfl⟩ : ∃ q, N = q + 1 := ⟨N - 1, by omega⟩
      obtain ⟨N', rfl⟩ : ∃ q, N' = q + 1 := ⟨N' - 1, by omega⟩
      have f := h4.2.2.2.2.2.2.2.1
      rw [zf_S_countSort_4, zf_M_count_225, f.1.1.1.1.1, f.2.1.1.1, if_pos (nI_le (by omega) (by omega)), if_pos (nI_le (by omega) (by omega))]
      exact ⟨c, τ, rfl, rfl, yfQ_r τ⟩
    | succ d ih =>
      intro s N N' c τ h1 h2 h3 h4
      obtain ⟨N, rfl⟩ : ∃ q, N = q + 1 := ⟨N - 1, by omega⟩
      obtain ⟨N', rfl⟩ : ∃ q, N' = q + 1 := ⟨N' - 1, by omega⟩
      have f := h4.2.2.2.2.2.2.2.1
      obtain ⟨z, τ1, g1, g2, -, g3⟩ := ym_sort (F := F) (by omega) h4 (show s < W.1 by omega)
      have gx := yx_sort (F := F) (by omega) h4 (show s < W.1 by omega) g3 hx
      rw [zf_S_countSort_4, zf_M_count_225, f.1.1.1.1.1, f.2.1.1.1, if_neg (nI_ge (by omega) (by omega)), if_neg (nI_ge (by omega) (by omega)), gx, yq_c, g1, yq_c, hy]
      unfold zf_S_countSort_30 zf_M_count_247
      rw [nI_1, yq_v, yq_v, yq_v, yq_v, yq_v, yq_v]
      by_cases e : z = x
      · rw [if_pos e, if_neg y01, if_pos e]
        exact yAq_t g2 (ih (s + 1) N N' (c + 1) τ1 (by omega) (by omega) (by omega) (yQx_Q h4 g2))
      · rw [if_neg e, if_pos y00, if_neg e]
        exact yAq_t g2 (ih (s + 1) N N' c τ1 (by omega) (by omega) (by omega) (yQx_Q h4 g2))
  exact loop W.1 0 F F 0 τ (by omega) (by omega) (by omega) h
/-- how many pairs -/
theorem yq_pairs {tt S : Nat} {B Tt kd tg : Nat → Nat} {wy : Nat → Nat → Int32} {ex : Nat → List (Nat × Int32)} {W : Nat × (Nat → Nat → Int32) × (Nat → Int32) × (Nat → Int32) × (Nat → Int32) × Nat × (Nat → Nat) × Bool} {fn : Nat → Nat} {σ τ : zs_S} (hF : 7000 < F) (h : yQx σ τ p q V L tt S B Tt kd tg wy ex W fn) : yAn (zf_States_pairs F σ) (zf_M_count_83 F F 0 0 τ) σ τ := by
  obtain ⟨hp, hq, hr6, hr2, hpp, hpc, hpm, ⟨f1, f2, f3, f4, f5, f6, f7⟩, h5, h138⟩ := h
  have hZ := f3.1
  have s15 : ∀ j, j < W.2.2.2.2.2.1 → zs_i σ 15 j = nI (W.2.2.2.2.2.2.1 j) := f1.1.2.2.2
  have s63 : ∀ j, j < W.2.2.2.2.2.1 → zs_i τ 63 j = nI (W.2.2.2.2.2.2.1 j) := f2.2.2.2.2
  -- is a step the first to its state
  have l1 : ∀ e i j N, i + e = j → j < W.2.2.2.2.2.1 → e < N → ∃ b : Int32, zf_States_isFirstTo_2 F N (nI j) (nI i) σ = some (b, σ) ∧ ((b = 1 ∧ ∀ k, i ≤ k → k < j → nI (W.2.2.2.2.2.2.1 k) ≠ nI (W.2.2.2.2.2.2.1 j)) ∨ (b = 0 ∧ ¬ ∀ k, i ≤ k → k < j → nI (W.2.2.2.2.2.2.1 k) ≠ nI (W.2.2.2.2.2.2.1 j))) := by
    intro e
    induction e with
    | zero =>
      intro i j N h1 h2 h3
      obtain ⟨N, rfl⟩ : ∃ q, N = q + 1 := ⟨N - 1, by omega⟩
      refine ⟨1, ?_, Or.inl ⟨rfl, fun k w1 w2 => by omega⟩⟩
      rw [zf_States_isFirstTo_2, if_pos (nI_le (by omega) (by omega))]
    | succ e ih =>
      intro i j N h1 h2 h3
      obtain ⟨N, rfl⟩ : ∃ q, N = q + 1 := ⟨N - 1, by omega⟩
      rw [zf_States_isFirstTo_2, if_neg (nI_ge (by omega) (by omega)), yn_b (show i < 3200 by omega) (by decide), yq_g, yn_b (show j < 3200 by omega) (by decide), yq_g, nI_clamp (by omega), nI_clamp (by omega), s15 i (by omega), s15 j (by omega)]
      by_cases q : nI (W.2.2.2.2.2.2.1 i) = nI (W.2.2.2.2.2.2.1 j)
      · rw [if_pos q]
        exact ⟨0, rfl, Or.inr ⟨rfl, fun hh => hh i (Nat.le_refl _) (by omega) q⟩⟩
      · rw [if_neg q, nI_1, yq_v]
        obtain ⟨b, b1, b2⟩ := ih (i + 1) j N (by omega) h2 (by omega)
        refine ⟨b, b1, ?_⟩
        rcases b2 with ⟨b2, b3⟩ | ⟨b2, b3⟩
        · refine Or.inl ⟨b2, fun k w1 w2 => ?_⟩
          by_cases ek : k = i
          · rw [ek]
            exact q
          · exact b3 k (by omega) w2
        · exact Or.inr ⟨b2, fun hh => b3 (fun k w1 w2 => hh k (by omega) w2)⟩
  have l2 : ∀ (k83 : Int32 → Int32 → zs_S → Option (Int32 × zs_S)) (k99 : Int32 → Int32 → Int32 → zs_S → Option (Int32 × zs_S)) (x2 x3 : Int32) e i j N (x5 : Int32), i + e = j → j < W.2.2.2.2.2.1 → e < N → (x5 = 0 ∨ x5 = 1) → ∃ y2 : Int32, zf_M_count_123 F k83 k99 N x2 x3 (nI j) x5 (nI i) τ = zf_M_count_171 F k83 k99 y2 x3 (nI j) τ ∧ ((y2 = x2 + 1 ∧ x5 = 1 ∧ ∀ k, i ≤ k → k < j → nI (W.2.2.2.2.2.2.1 k) ≠ nI (W.2.2.2.2.2.2.1 j)) ∨ (y2 = x2 ∧ ¬ (x5 = 1 ∧ ∀ k, i ≤ k → k < j → nI (W.2.2.2.2.2.2.1 k) ≠ nI (W.2.2.2.2.2.2.1 j)))) := by
    intro k83 k99 x2 x3 e
    induction e with
    | zero =>
      intro i j N x5 h1 h2 h3 h4
      obtain ⟨N, rfl⟩ : ∃ q, N = q + 1 := ⟨N - 1, by omega⟩
      rw [zf_M_count_123, if_pos (nI_le (by omega) (by omega))]
      rcases h4 with h4 | h4
      · rw [if_pos h4]
        exact ⟨x2, rfl, Or.inr ⟨rfl, fun hh => by rw [h4] at hh; exact absurd hh.1 (by decide)⟩⟩
      · rw [if_neg (by rw [h4]; decide), yq_v]
        exact ⟨x2 + 1, rfl, Or.inl ⟨rfl, h4, fun k w1 w2 => by omega⟩⟩
    | succ e ih =>
      intro i j N x5 h1 h2 h3 h4
      obtain ⟨N, rfl⟩ : ∃ q, N = q + 1 := ⟨N - 1, by omega⟩
      rw [zf_M_count_123, if_neg (nI_ge (by omega) (by omega)), yn_b (show i < 12800 by omega) (by decide), yq_g, yn_b (show j < 12800 by omega) (by decide), yq_g, nI_clamp (by omega), nI_clamp (by omega), s63 i (by omega), s63 j (by omega)]
      unfold zf_M_count_154
      rw [yq_v, nI_1, yq_v, yq_v, yq_v]
      by_cases q : nI (W.2.2.2.2.2.2.1 i) = nI (W.2.2.2.2.2.2.1 j)
      · rw [if_pos q]
        have e0 : x5 &&& 0 = 0 := by
          rcases h4 with h4 | h4
          · rw [h4]; decide
          · rw [h4]; decide
        rw [e0]
        obtain ⟨y2, b1, b2⟩ := ih (i + 1) j N 0 (by omega) h2 (by omega) (Or.inl rfl)
        refine ⟨y2, b1, ?_⟩
        rcases b2 with ⟨-, b3, -⟩ | ⟨b2, b3⟩
        · exact absurd b3 (by decide)
        · exact Or.inr ⟨b2, fun hh => hh.2 i (Nat.le_refl _) (by omega) q⟩
      · rw [if_neg q]
        have e0 : x5 &&& 1 = x5 := by
          rcases h4 with h4 | h4
          · rw [h4]; decide
          · rw [h4]; decide
        rw [e0]
        obtain ⟨y2, b1, b2⟩ := ih (i + 1) j N x5 (by omega) h2 (by omega) h4
        refine ⟨y2, b1, ?_⟩
        rcases b2 with ⟨b2, b3, b4⟩ | ⟨b2, b3⟩
        · refine Or.inl ⟨b2, b3, fun k w1 w2 => ?_⟩
          by_cases ek : k = i
          · rw [ek]
            exact q
          · exact b4 k (by omega) w2
        · exact Or.inr ⟨b2, fun hh => b3 ⟨hh.1, fun k w1 w2 => hh.2 k (by omega) w2⟩⟩
  -- the steps of one state
  have l3 : ∀ (k4 k83 : Int32 → Int32 → zs_S → Option (Int32 × zs_S)) s, s < W.1 → ∀ e j N N' (c : Int32), fn s ≤ j → j + e = fn (s + 1) → e < N → e < N' → ∃ c' : Int32, zf_States_pairs_19 F k4 N c (nI s) (nI j) σ = k4 c' (nI (s + 1)) σ ∧ zf_M_count_99 F k83 N' c (nI s) (nI j) τ = k83 c' (nI (s + 1)) τ := by
    intro k4 k83 s hs e
    obtain ⟨u1, u2, u3⟩ := f7.1 s (by omega)
    obtain ⟨w1, w2, w3⟩ := f7.1 (s + 1) (by omega)
    induction e with
    | zero =>
      intro j N N' c h0 h1 h2 h3
      obtain ⟨N, rfl⟩ : ∃ q, N = q + 1 := ⟨N - 1, by omega⟩
      obtain ⟨N', rfl⟩ : ∃ q, N' = q + 1 := ⟨N' - 1, by omega⟩
      refine ⟨c, ?_, ?_⟩
      · rw [zf_States_pairs_19, nI_1, yn_b (show s + 1 < 801 by omega) (by decide), yq_g, nI_clamp (by omega), w1, if_pos (nI_le (by omega) (by omega)), yq_v]
      · rw [zf_M_count_99, nI_1, yn_b (show s + 1 < 802 by omega) (by decide), yq_g, nI_clamp (by omega), w2, if_pos (nI_le (by omega) (by omega)), yq_v]
    | succ e ih =>
      intro j N N' c h0 h1 h2 h3
      obtain ⟨N, rfl⟩ : ∃ q, N = q + 1 := ⟨N - 1, by omega⟩
      obtain ⟨N', rfl⟩ : ∃ q, N' = q + 1 := ⟨N' - 1, by omega⟩
      obtain ⟨b, b1, b2⟩ := l1 (j - fn s) (fn s) j F (by omega) (by omega) (by omega)
      obtain ⟨y2, g1, g2⟩ := l2 k83 (zf_M_count_99 F k83 N') c (nI s) (j - fn s) (fn s) j F 1 (by omega) (by omega) (by omega) (Or.inr rfl)
      have em : zf_M_count_99 F k83 (N' + 1) c (nI s) (nI j) τ = zf_M_count_99 F k83 N' y2 (nI s) (nI (j + 1)) τ := by
        rw [zf_M_count_99, nI_1, yn_b (show s + 1 < 802 by omega) (by decide), yq_g, nI_clamp (by omega), w2, if_neg (nI_ge (by omega) (by omega)), yn_b (show s < 802 by omega) (by decide), yq_g, nI_clamp (by omega), u2, yq_v, g1]
        unfold zf_M_count_171
        rw [nI_1, yq_v]
      have b1' : zf_States_isFirstTo F (nI j) (nI (fn s)) σ = some (b, σ) := b1
      have ec : zf_States_pairs_19 F k4 (N + 1) c (nI s) (nI j) σ = zf_States_pairs_19 F k4 N y2 (nI s) (nI (j + 1)) σ := by
        rw [zf_States_pairs_19, nI_1, yn_b (show s + 1 < 801 by omega) (by decide), yq_g, nI_clamp (by omega), w1, if_neg (nI_ge (by omega) (by omega)), yn_b (show s < 801 by omega) (by decide), yq_g, nI_clamp (by omega), u1, b1', yq_c]
        unfold zf_States_pairs_48
        rw [nI_1, yq_v, yq_v, yq_v]
        rcases b2 with ⟨b2, b3⟩ | ⟨b2, b3⟩
        · rcases g2 with ⟨g2, -, g3⟩ | ⟨g2, g3⟩
          · rw [if_neg (by rw [b2]; decide), g2]
          · exact absurd ⟨rfl, b3⟩ g3
        · rcases g2 with ⟨g2, -, g3⟩ | ⟨g2, g3⟩
          · exact absurd g3 b3
          · rw [if_pos b2, g2]
      rw [ec, em]
      exact ih (j + 1) N N' y2 (by omega) (by omega) (by omega) (by omega)
  have l4 : ∀ d s N N' (c : Int32), s + d = W.1 → d < N → d < N' → yAn (zf_States_pairs_4 F N c (nI s) σ) (zf_M_count_83 F N' c (nI s) τ) σ τ := by
    intro d
    induction d with
    | zero =>
      intro s N N' c h1 h2 h3
      obtain ⟨N, rfl⟩ : ∃ q, N = q + 1 := ⟨N - 1, by omega⟩
      obtain ⟨N', rfl⟩ : ∃ q, N' = q + 1 := ⟨N' - 1, by omega⟩
      rw [zf_States_pairs_4, zf_M_count_83, f1.1.1.1.1, f2.1.1, if_pos (nI_le (by omega) (by omega)), if_pos (nI_le (by omega) (by omega))]
      exact ⟨c, rfl, rfl⟩
    | succ d ih =>
      intro s N N' c h1 h2 h3
      obtain ⟨N, rfl⟩ : ∃ q, N = q + 1 := ⟨N - 1, by omega⟩
      obtain ⟨N', rfl⟩ : ∃ q, N' = q + 1 := ⟨N' - 1, by omega⟩
      obtain ⟨u1, u2, u3⟩ := f7.1 s (by omega)
      obtain ⟨w1, w2, w3⟩ := f7.1 (s + 1) (by omega)
      have mono := f7.2 s (by omega)
      obtain ⟨c', k1, k2⟩ := l3 (zf_States_pairs_4 F N) (zf_M_count_83 F N') s (by omega) (fn (s + 1) - fn s) (fn s) F F c (Nat.le_refl _) (by omega) (by omega) (by omega)
      rw [zf_States_pairs_4, zf_M_count_83, f1.1.1.1.1, f2.1.1, if_neg (nI_ge (by omega) (by omega)), if_neg (nI_ge (by omega) (by omega)), yn_b (show s < 801 by omega) (by decide), yq_g, yn_b (show s < 802 by omega) (by decide), yq_g, nI_clamp (by omega), u1, u2, yq_v, yq_v, k1, k2]
      exact ih (s + 1) N N' c' (by omega) (by omega) (by omega)
  exact l4 W.1 0 F F 0 (by omega) (by omega) (by omega)
theorem yq_count {tt S : Nat} {B Tt kd tg : Nat → Nat} {wy : Nat → Nat → Int32} {ex : Nat → List (Nat × Int32)} {W : Nat × (Nat → Nat → Int32) × (Nat → Int32) × (Nat → Int32) × (Nat → Int32) × Nat × (Nat → Nat) × Bool} {fn : Nat → Nat} {σ τ : zs_S} {a : Int32} (hF : 7000 < F) (h : yQx σ τ p q V L tt S B Tt kd tg wy ex W fn) : yAq (zf_S_count F a σ) (zf_M_count F a τ) σ τ := by
  have h' := h
  obtain ⟨hp, hq, hr6, hr2, hpp, hpc, hpm, ⟨f1, f2, f3, f4, f5, f6, f7⟩, h5, h138⟩ := h
  have hp2 := yPP_b hp
  have hq2 := yQQ_b hq
  have hin := yq_in (F := F) (x := a) (τ := τ) (Z := 9) (by omega)
  unfold zf_S_count zf_M_count
  rcases hin with ⟨k, k1, k2, k3, k4, k5, k6⟩ | ⟨e2, hx⟩
  · have k6' : zf_M_in F a 0 8 τ = some (1, τ) := k6
    rw [k6', yq_c, if_neg y01, h5, if_neg (show ¬ (1 : Int32) = 0 by decide)]
    have hk : k = 0 ∨ k = 1 ∨ k = 2 ∨ k = 3 ∨ k = 4 ∨ k = 5 ∨ k = 6 ∨ k = 7 ∨ k = 8 := by omega
    rcases hk with e | e | e | e | e | e | e | e | e
    · rw [show a = (0 : Int32) from by rw [k2, e]; rfl, if_pos rfl, if_pos rfl, f1.1.1.1.1, f2.1.1]
      exact ⟨_, τ, rfl, rfl, yfQ_r τ⟩
    · obtain ⟨r, r1, r2⟩ := yq_pairs (F := F) hF h'
      rw [show a = (1 : Int32) from by rw [k2, e]; rfl, if_neg (show ¬ (1 : Int32) = 0 by decide), if_neg (show ¬ (1 : Int32) = 0 by decide), if_pos rfl, if_pos rfl, r1, r2, yq_c]
      exact ⟨r, τ, rfl, rfl, yfQ_r τ⟩
    · obtain ⟨r, τ', r1, r2, r3⟩ := yq_cs (F := F) (x := 0) (y := 2) hF h' (Or.inl rfl) (by decide)
      rw [show a = (2 : Int32) from by rw [k2, e]; rfl, if_neg (show ¬ (2 : Int32) = 0 by decide), if_neg (show ¬ (2 : Int32) = 0 by decide), if_neg (show ¬ (2 : Int32) = 1 by decide), if_neg (show ¬ (2 : Int32) = 1 by decide), if_pos rfl, if_pos rfl, r1, r2, yq_c]
      exact ⟨r, τ', rfl, rfl, r3⟩
    · obtain ⟨r, τ', r1, r2, r3⟩ := yq_cs (F := F) (x := 1) (y := 3) hF h' (Or.inr (Or.inl rfl)) (by decide)
      rw [show a = (3 : Int32) from by rw [k2, e]; rfl, if_neg (show ¬ (3 : Int32) = 0 by decide), if_neg (show ¬ (3 : Int32) = 0 by decide), if_neg (show ¬ (3 : Int32) = 1 by decide), if_neg (show ¬ (3 : Int32) = 1 by decide), if_neg (show ¬ (3 : Int32) = 2 by decide), if_neg (show ¬ (3 : Int32) = 2 by decide), if_pos rfl, if_pos rfl, r1, r2, yq_c]
      exact ⟨r, τ', rfl, rfl, r3⟩
    · obtain ⟨r, τ', r1, r2, r3⟩ := yq_cs (F := F) (x := 2) (y := 4) hF h' (Or.inr (Or.inr rfl)) (by decide)
      rw [show a = (4 : Int32) from by rw [k2, e]; rfl, if_neg (show ¬ (4 : Int32) = 0 by decide), if_neg (show ¬ (4 : Int32) = 0 by decide), if_neg (show ¬ (4 : Int32) = 1 by decide), if_neg (show ¬ (4 : Int32) = 1 by decide), if_neg (show ¬ (4 : Int32) = 2 by decide), if_neg (show ¬ (4 : Int32) = 2 by decide), if_neg (show ¬ (4 : Int32) = 3 by decide), if_neg (show ¬ (4 : Int32) = 3 by decide), if_pos rfl, if_pos rfl, r1, r2, yq_c]
      exact ⟨r, τ', rfl, rfl, r3⟩
    · rw [show a = (5 : Int32) from by rw [k2, e]; rfl, if_neg (show ¬ (5 : Int32) = 0 by decide), if_neg (show ¬ (5 : Int32) = 0 by decide), if_neg (show ¬ (5 : Int32) = 1 by decide), if_neg (show ¬ (5 : Int32) = 1 by decide), if_neg (show ¬ (5 : Int32) = 2 by decide), if_neg (show ¬ (5 : Int32) = 2 by decide), if_neg (show ¬ (5 : Int32) = 3 by decide), if_neg (show ¬ (5 : Int32) = 3 by decide), if_neg (show ¬ (5 : Int32) = 4 by decide), if_neg (show ¬ (5 : Int32) = 4 by decide), if_pos rfl, if_pos rfl, hr6, zq_qr (by omega), yp_k hp, yq_g, hr2, zq_qr (by omega), yv_k hq, yq_g, hpc.1.2.2.1, hpm.1.2.2.1]
      exact ⟨_, τ, rfl, rfl, yfQ_r τ⟩
    · rw [show a = (6 : Int32) from by rw [k2, e]; rfl, if_neg (show ¬ (6 : Int32) = 0 by decide), if_neg (show ¬ (6 : Int32) = 0 by decide), if_neg (show ¬ (6 : Int32) = 1 by decide), if_neg (show ¬ (6 : Int32) = 1 by decide), if_neg (show ¬ (6 : Int32) = 2 by decide), if_neg (show ¬ (6 : Int32) = 2 by decide), if_neg (show ¬ (6 : Int32) = 3 by decide), if_neg (show ¬ (6 : Int32) = 3 by decide), if_neg (show ¬ (6 : Int32) = 4 by decide), if_neg (show ¬ (6 : Int32) = 4 by decide), if_neg (show ¬ (6 : Int32) = 5 by decide), if_neg (show ¬ (6 : Int32) = 5 by decide), if_pos rfl, if_pos rfl, hr6, zq_qr (by omega), yp_k hp, yq_g, hr2, zq_qr (by omega), yv_k hq, yq_g, yv_r0 hq, zq_qr (by omega), yv_k1 hq, yq_g, hpc.1.1, hpm.1.1]
      exact ⟨_, τ, rfl, rfl, yfQ_r τ⟩
    · rw [show a = (7 : Int32) from by rw [k2, e]; rfl, if_neg (show ¬ (7 : Int32) = 0 by decide), if_neg (show ¬ (7 : Int32) = 0 by decide), if_neg (show ¬ (7 : Int32) = 1 by decide), if_neg (show ¬ (7 : Int32) = 1 by decide), if_neg (show ¬ (7 : Int32) = 2 by decide), if_neg (show ¬ (7 : Int32) = 2 by decide), if_neg (show ¬ (7 : Int32) = 3 by decide), if_neg (show ¬ (7 : Int32) = 3 by decide), if_neg (show ¬ (7 : Int32) = 4 by decide), if_neg (show ¬ (7 : Int32) = 4 by decide), if_neg (show ¬ (7 : Int32) = 5 by decide), if_neg (show ¬ (7 : Int32) = 5 by decide), if_neg (show ¬ (7 : Int32) = 6 by decide), if_neg (show ¬ (7 : Int32) = 6 by decide), if_pos rfl, if_pos rfl, hr6, zq_qr (by omega), yp_k hp, yq_g, hr2, zq_qr (by omega), yv_k hq, yq_g, yv_r1 hq, zq_qr (by omega), yv_k4 hq, yq_g, hpc.1.2.1, hpm.1.2.1]
      exact ⟨_, τ, rfl, rfl, yfQ_r τ⟩
    · rw [show a = (8 : Int32) from by rw [k2, e]; rfl, if_neg (show ¬ (8 : Int32) = 0 by decide), if_neg (show ¬ (8 : Int32) = 0 by decide), if_neg (show ¬ (8 : Int32) = 1 by decide), if_neg (show ¬ (8 : Int32) = 1 by decide), if_neg (show ¬ (8 : Int32) = 2 by decide), if_neg (show ¬ (8 : Int32) = 2 by decide), if_neg (show ¬ (8 : Int32) = 3 by decide), if_neg (show ¬ (8 : Int32) = 3 by decide), if_neg (show ¬ (8 : Int32) = 4 by decide), if_neg (show ¬ (8 : Int32) = 4 by decide), if_neg (show ¬ (8 : Int32) = 5 by decide), if_neg (show ¬ (8 : Int32) = 5 by decide), if_neg (show ¬ (8 : Int32) = 6 by decide), if_neg (show ¬ (8 : Int32) = 6 by decide), if_neg (show ¬ (8 : Int32) = 7 by decide), if_neg (show ¬ (8 : Int32) = 7 by decide), if_pos rfl, if_pos rfl, hr6, zq_qr (by omega), yp_k hp, yq_g, hr2, zq_qr (by omega), yv_k hq, yq_g, hpc.1.2.2.2, hpm.1.2.2.2]
      exact ⟨_, τ, rfl, rfl, yfQ_r τ⟩
  · have e2' : zf_M_in F a 0 8 τ = some (0, τ) := e2
    have hne : ∀ j, j < 9 → a ≠ nI j := fun j hj e => by
      rcases hx with hx | ⟨-, hx, -⟩
      · rw [e] at hx
        exact nI_pos (by omega) hx
      · rw [e] at hx
        exact nI_ge hj (by omega) hx
    rw [e2', yq_c, if_pos y00, if_neg (show ¬ a = 0 from hne 0 (by omega)), if_neg (show ¬ a = 1 from hne 1 (by omega)), if_neg (show ¬ a = 2 from hne 2 (by omega)), if_neg (show ¬ a = 3 from hne 3 (by omega)), if_neg (show ¬ a = 4 from hne 4 (by omega)), if_neg (show ¬ a = 5 from hne 5 (by omega)), if_neg (show ¬ a = 6 from hne 6 (by omega)), if_neg (show ¬ a = 7 from hne 7 (by omega)), if_neg (show ¬ a = 8 from hne 8 (by omega))]
    exact ⟨-1, τ, rfl, rfl, yfQ_r τ⟩
end YQC
