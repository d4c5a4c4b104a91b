/-! explorer: the class's store of states -/
section YKP
variable {F n m p q t V L T : Nat} {v : Nat → Nat}
def yhi (C : Nat → Int32) : Nat → Int32
  | 0 => 0
  | i + 1 => yhi C i * 31 + C i
def yhs (C : Nat → Int32) : Int32 := yhi C 34
theorem yhi_F {C C' : Nat → Int32} : ∀ i, (∀ k, k < i → C k = C' k) → yhi C i = yhi C' i := by
  intro i
  induction i with
  | zero => intro _; rfl
  | succ i ih =>
    intro h
    show yhi C i * 31 + C i = yhi C' i * 31 + C' i
    rw [ih (fun k hk => h k (by omega)), h i (by omega)]
theorem yand (x : Int32) : ∃ b, b < 1024 ∧ x &&& 1023 = nI b := by
  refine ⟨x.toBitVec.toNat % 1024, Nat.mod_lt _ (by decide), ?_⟩
  apply Int32.toBitVec_inj.mp
  apply BitVec.eq_of_toNat_eq
  rw [Int32.toBitVec_and, BitVec.toNat_and, pk_tn (by have := Nat.mod_lt x.toBitVec.toNat (show 1024 > 0 by decide); omega)]
  exact Nat.and_two_pow_sub_one_eq_mod x.toBitVec.toNat 10
def ybk (C : Nat → Int32) : Nat := (yhs C &&& 1023).toNatClampNeg
theorem ybk_f (C : Nat → Int32) : ybk C < 1024 ∧ yhs C &&& 1023 = nI (ybk C) := by
  obtain ⟨b, h1, h2⟩ := yand (yhs C)
  unfold ybk
  rw [h2, nI_clamp (by omega)]
  exact ⟨h1, rfl⟩
theorem ybk_F {C C' : Nat → Int32} (h : ∀ k, k < 34 → C k = C' k) : yhs C = yhs C' ∧ ybk C = ybk C' := by
  have : yhs C = yhs C' := yhi_F 34 h
  unfold ybk
  rw [this]
  exact ⟨rfl, rfl⟩
/-- the last state below n in the bucket b -/
def ypv (R : Nat → Nat → Int32) (b : Nat) : Nat → Int32
  | 0 => -2
  | n + 1 => if ybk (R n) = b then nI n else ypv R b n
theorem ypv_c {R : Nat → Nat → Int32} {b : Nat} : ∀ n, (ypv R b n = -2 ∧ ∀ s, s < n → ybk (R s) ≠ b) ∨ (∃ s, s < n ∧ ypv R b n = nI s ∧ ybk (R s) = b ∧ ∀ s', s < s' → s' < n → ybk (R s') ≠ b) := by
  intro n
  induction n with
  | zero => exact Or.inl ⟨rfl, fun s h => by omega⟩
  | succ n ih =>
    unfold ypv
    by_cases h : ybk (R n) = b
    · rw [if_pos h]
      exact Or.inr ⟨n, by omega, rfl, h, fun s' h1 h2 => by omega⟩
    · rw [if_neg h]
      rcases ih with ⟨h1, h2⟩ | ⟨s, h1, h2, h3, h4⟩
      · refine Or.inl ⟨h1, fun s hs => ?_⟩
        by_cases hsn : s = n
        · subst hsn
          exact h
        · exact h2 s (by omega)
      · refine Or.inr ⟨s, by omega, h2, h3, fun s' g1 g2 => ?_⟩
        by_cases hsn : s' = n
        · subst hsn
          exact h
        · exact h4 s' g1 (by omega)
theorem ypv_F {R R' : Nat → Nat → Int32} {b : Nat} : ∀ n, (∀ s, s < n → ybk (R s) = ybk (R' s)) → ypv R b n = ypv R' b n := by
  intro n
  induction n with
  | zero => intro _; rfl
  | succ n ih =>
    intro h
    unfold ypv
    rw [h n (by omega), ih (fun s hs => h s (by omega))]
/-- states found so far, their rows -/
def yZc (σ : zs_S) (Z : Nat) (R : Nat → Nat → Int32) : Prop := (zs_i σ 10 9 = nI Z ∧ Z ≤ 800) ∧ (∀ s k, s < Z → k < 34 → zs_i σ 11 (34 * s + k) = R s k) ∧ (∀ s s', s < Z → s' < Z → (∀ k, k < 34 → R s k = R s' k) → s = s') ∧ (∀ s, s < Z → zs_i σ 17 s = yhs (R s)) ∧ (∀ b, b < 1024 → zs_i σ 18 b = ypv R b Z) ∧ (∀ s, s < Z → zs_i σ 19 s = ypv R (ybk (R s)) s)
def yXb (σ : zs_S) (Z : Nat) (X : Nat → Int32) : Prop := ∀ k, k < 34 → zs_i σ 11 (34 * Z + k) = X k
theorem yn_34 (s : Nat) : nI s * 34 = nI (34 * s) := by
  rw [show (34 : Int32) = nI 34 from rfl, yn_mul, Nat.mul_comm]
theorem yy_hash {Z : Nat} {X : Nat → Int32} {σ : zs_S} (hz : zs_i σ 10 9 = nI Z) (hZ : Z ≤ 800) (hX : yXb σ Z X) (hF : 100 < F) : zf_States_hashBuilt F σ = some (yhs X, σ) := by
  have loop : ∀ d i N, 34 - i ≤ d → i ≤ 34 → d < N → zf_States_hashBuilt_12 F N (yhi X i) (nI (34 * Z)) (nI i) σ = some (yhs X, σ) := by
    intro d
    induction d with
    | zero =>
      intro i N h1 h2 h3
      obtain ⟨N, rfl⟩ : ∃ q, N = q + 1 := ⟨N - 1, by omega⟩
      have : i = 34 := by omega
      subst this
      rw [zf_States_hashBuilt_12, if_pos (by decide)]
      rfl
    | succ d ih =>
      intro i N h1 h2 h3
      obtain ⟨N, rfl⟩ : ∃ q, N = q + 1 := ⟨N - 1, by omega⟩
      by_cases hi : i = 34
      · subst hi
        rw [zf_States_hashBuilt_12, if_pos (by decide)]
        rfl
      · rw [zf_States_hashBuilt_12, show (34 : Int32) = nI 34 from rfl, if_neg (nI_ge (by omega) (by omega)), nI_add, yn_b (show 34 * Z + i < 27234 by omega) (by decide), yq_g, nI_clamp (by omega), hX i (by omega), yq_v, nI_1, yq_v]
        exact ih (i + 1) N (by omega) (by omega) (by omega)
  unfold zf_States_hashBuilt
  rw [hz, yn_34, yq_v]
  exact loop 40 0 F (by omega) (by omega) (by omega)
theorem yy_isb {Z s : Nat} {R : Nat → Nat → Int32} {X : Nat → Int32} {σ : zs_S} (h : yZc σ Z R) (hX : yXb σ Z X) (hs : s < Z) (hF : 100 < F) : ∃ b : Int32, zf_States_isBuilt F (nI s) σ = some (b, σ) ∧ ((b = 1 ∧ ∀ k, k < 34 → R s k = X k) ∨ (b = 0 ∧ ¬ ∀ k, k < 34 → R s k = X k)) := by
  obtain ⟨⟨hz, hZ⟩, hr, -⟩ := h
  have loop : ∀ d i N, 34 - i ≤ d → i ≤ 34 → d < N → ∃ b : Int32, zf_States_isBuilt_2 F N (nI s) (nI i) σ = some (b, σ) ∧ ((b = 1 ∧ ∀ k, i ≤ k → k < 34 → R s k = X k) ∨ (b = 0 ∧ ¬ ∀ k, i ≤ k → k < 34 → R s k = X k)) := by
    intro d
    induction d with
    | zero =>
      intro i N h1 h2 h3
      obtain ⟨N, rfl⟩ : ∃ q, N = q + 1 := ⟨N - 1, by omega⟩
      have : i = 34 := by omega
      subst this
      exact ⟨1, by rw [zf_States_isBuilt_2, if_pos (by decide)], Or.inl ⟨rfl, fun k k1 k2 => by omega⟩⟩
    | succ d ih =>
      intro i N h1 h2 h3
      obtain ⟨N, rfl⟩ : ∃ q, N = q + 1 := ⟨N - 1, by omega⟩
      by_cases hi : i = 34
      · subst hi
        exact ⟨1, by rw [zf_States_isBuilt_2, if_pos (by decide)], Or.inl ⟨rfl, fun k k1 k2 => by omega⟩⟩
      · have e1 : zf_States_isBuilt_2 F (N + 1) (nI s) (nI i) σ = if R s i = X i then zf_States_isBuilt_2 F N (nI s) (nI (i + 1)) σ else some (0, σ) := by
          rw [zf_States_isBuilt_2, if_neg (show ¬ (34 : Int32) ≤ nI i from nI_ge (a := i) (b := 34) (by omega) (by omega)), yn_34, nI_add, yn_b (show 34 * s + i < 27234 by omega) (by decide), yq_g, hz, yn_34, nI_add, yn_b (show 34 * Z + i < 27234 by omega) (by decide), yq_g, nI_clamp (by omega), nI_clamp (by omega), hr s i hs (by omega), hX i (by omega), nI_1, yq_v]
        by_cases he : R s i = X i
        · obtain ⟨b, b1, b2⟩ := ih (i + 1) N (by omega) (by omega) (by omega)
          refine ⟨b, by rw [e1, if_pos he, b1], ?_⟩
          rcases b2 with ⟨b2, b3⟩ | ⟨b2, b3⟩
          · refine Or.inl ⟨b2, fun k k1 k2 => ?_⟩
            by_cases hk : k = i
            · subst hk
              exact he
            · exact b3 k (by omega) k2
          · exact Or.inr ⟨b2, fun hh => b3 (fun k k1 k2 => hh k (by omega) k2)⟩
        · exact ⟨0, by rw [e1, if_neg he], Or.inr ⟨rfl, fun hh => he (hh i (Nat.le_refl i) (by omega))⟩⟩
  obtain ⟨b, b1, b2⟩ := loop 40 0 F (by omega) (by omega) (by omega)
  refine ⟨b, b1, ?_⟩
  rcases b2 with ⟨b2, b3⟩ | ⟨b2, b3⟩
  · exact Or.inl ⟨b2, fun k hk => b3 k (by omega) hk⟩
  · exact Or.inr ⟨b2, fun hh => b3 (fun k _ hk => hh k hk)⟩
theorem yy_findb {Z : Nat} {R : Nat → Nat → Int32} {X : Nat → Int32} {σ : zs_S} (h : yZc σ Z R) (hX : yXb σ Z X) (hF : 900 < F) : (∃ s, s < Z ∧ (∀ k, k < 34 → R s k = X k) ∧ zf_States_findBuilt F (yhs X) σ = some (nI s, σ)) ∨ ((∀ s, s < Z → ¬ ∀ k, k < 34 → R s k = X k) ∧ zf_States_findBuilt F (yhs X) σ = some (-2, σ)) := by
  have h0 := h
  obtain ⟨⟨hz, hZ⟩, hr, hd, hh, hb, hc⟩ := h
  have loop : ∀ d n i N, n ≤ d → i + n ≤ Z → d < N → (∃ s, s < n ∧ (∀ k, k < 34 → R s k = X k) ∧ zf_States_findBuilt_13 F N (yhs X) (ypv R (ybk X) n) (nI i) σ = some (nI s, σ)) ∨ ((∀ s, s < n → ¬ ∀ k, k < 34 → R s k = X k) ∧ zf_States_findBuilt_13 F N (yhs X) (ypv R (ybk X) n) (nI i) σ = some (-2, σ)) := by
    have none : ∀ n i N, 0 < N → i + n ≤ Z → ypv R (ybk X) n = -2 → zf_States_findBuilt_13 F N (yhs X) (ypv R (ybk X) n) (nI i) σ = some (-2, σ) := by
      intro n i N hN hi hp
      obtain ⟨N, rfl⟩ : ∃ q, N = q + 1 := ⟨N - 1, by omega⟩
      rw [zf_States_findBuilt_13, hp]
      unfold zf_States_findBuilt_60
      by_cases hle : zs_i σ 10 9 ≤ nI i
      · rw [if_pos hle]
      · rw [if_neg hle, if_pos rfl]
    intro d
    induction d with
    | zero =>
      intro n i N h1 h2 h3
      have : n = 0 := by omega
      subst this
      exact Or.inr ⟨fun s hs => by omega, none 0 i N h3 h2 rfl⟩
    | succ d ih =>
      intro n i N h1 h2 h3
      rcases ypv_c (R := R) (b := ybk X) n with ⟨p1, p2⟩ | ⟨s, p1, p2, p3, p4⟩
      · exact Or.inr ⟨fun s hs he => p2 s hs (ybk_F he).2, none n i N (by omega) h2 p1⟩
      · obtain ⟨N, rfl⟩ : ∃ q, N = q + 1 := ⟨N - 1, by omega⟩
        obtain ⟨b, b1, b2⟩ := yy_isb (F := F) h0 hX (show s < Z by omega) (by omega)
        have hcs : zs_i σ 19 s = ypv R (ybk X) s := by rw [hc s (by omega), p3]
        have hnext : ∀ k13, zf_States_findBuilt_47 F k13 (yhs X) (nI s) (nI i) σ = k13 (yhs X) (ypv R (ybk X) s) (nI (i + 1)) σ := by
          intro k13
          unfold zf_States_findBuilt_47
          rw [yn_b (show s < 800 by omega) (by decide), yq_g, nI_clamp (by omega), hcs, yq_v, nI_1, yq_v]
        have e1 : zf_States_findBuilt_13 F (N + 1) (yhs X) (ypv R (ybk X) n) (nI i) σ = if yhs (R s) = yhs X then (if b = 0 then zf_States_findBuilt_13 F N (yhs X) (ypv R (ybk X) s) (nI (i + 1)) σ else some (nI s, σ)) else zf_States_findBuilt_13 F N (yhs X) (ypv R (ybk X) s) (nI (i + 1)) σ := by
          rw [zf_States_findBuilt_13, p2, hz, if_neg (nI_ge (by omega) (by omega)), if_neg (yn_ne2 (by omega)), yn_b (show s < 800 by omega) (by decide), yq_g, nI_clamp (by omega), hh s (by omega), b1, yq_c, hnext]
        have back : (¬ ∀ k, k < 34 → R s k = X k) → zf_States_findBuilt_13 F (N + 1) (yhs X) (ypv R (ybk X) n) (nI i) σ = zf_States_findBuilt_13 F N (yhs X) (ypv R (ybk X) s) (nI (i + 1)) σ → (∃ s, s < n ∧ (∀ k, k < 34 → R s k = X k) ∧ zf_States_findBuilt_13 F (N + 1) (yhs X) (ypv R (ybk X) n) (nI i) σ = some (nI s, σ)) ∨ ((∀ s, s < n → ¬ ∀ k, k < 34 → R s k = X k) ∧ zf_States_findBuilt_13 F (N + 1) (yhs X) (ypv R (ybk X) n) (nI i) σ = some (-2, σ)) := by
          intro hne e2
          rw [e2]
          rcases ih s (i + 1) N (by omega) (by omega) (by omega) with ⟨s', q1, q2, q3⟩ | ⟨q1, q2⟩
          · exact Or.inl ⟨s', by omega, q2, q3⟩
          · refine Or.inr ⟨fun s' hs' he => ?_, q2⟩
            by_cases h1' : s' < s
            · exact q1 s' h1' he
            · by_cases h2' : s' = s
              · subst h2'
                exact hne he
              · exact p4 s' (by omega) hs' (ybk_F he).2
        rcases b2 with ⟨b2, b3⟩ | ⟨b2, b3⟩
        · refine Or.inl ⟨s, p1, b3, ?_⟩
          rw [e1, if_pos (ybk_F b3).1, b2, if_neg y01]
        · refine back b3 ?_
          rw [e1, b2, if_pos y00]
          by_cases hhh : yhs (R s) = yhs X
          · rw [if_pos hhh]
          · rw [if_neg hhh]
  have e0 : zf_States_findBuilt F (yhs X) σ = zf_States_findBuilt_13 F F (yhs X) (ypv R (ybk X) Z) (nI 0) σ := by
    unfold zf_States_findBuilt
    rw [(ybk_f X).2, yn_b (ybk_f X).1 (by decide), yq_g, nI_clamp (by have := (ybk_f X).1; omega), hb _ (ybk_f X).1, yq_v]
    rfl
  rw [e0]
  exact loop Z Z 0 F (Nat.le_refl _) (by omega) (by omega)
end YKP
