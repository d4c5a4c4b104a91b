/-! the questions: outcome -/
section YQO
variable {F n m p q t V L T : Nat} {v : Nat → Nat}
theorem yf_B0 {o n : Nat} (hk : zq_k 0 o 1 = true) (hn : (zd_sh 0 o).2 = n) (hb : n < 2 ^ 31) : ∀ d i N σ, i + d = n → d < N → ∃ σ', zf_Arrays_fillB0_5 F N o 0 (nI i) (nI n) σ = some σ' ∧ (∀ k, i ≤ k → k < n → zs_i σ' o k = 0) ∧ (∀ o' k, ¬ (o' = o ∧ i ≤ k ∧ k < n) → zs_i σ' o' k = zs_i σ o' k) ∧ (∀ o k, zs_r σ' o k = zs_r σ o k) := by
  have hv : vp_nar .byte 0 = 0 := by decide
  intro d
  induction d with
  | zero =>
    intro i N σ h1 h2
    obtain ⟨N, rfl⟩ : ∃ q, N = q + 1 := ⟨N - 1, by omega⟩
    refine ⟨σ, ?_, fun k w1 w2 => by omega, fun _ _ _ => rfl, fun _ _ => rfl⟩
    rw [zf_Arrays_fillB0_5, if_pos (nI_le (by omega) (by omega))]
  | succ d ih =>
    intro i N σ h1 h2
    obtain ⟨N, rfl⟩ : ∃ q, N = q + 1 := ⟨N - 1, by omega⟩
    obtain ⟨σ', z1, z2, z3, z4⟩ := ih (i + 1) N (zs_wi σ o i 0) (by omega) (by omega)
    refine ⟨σ', ?_, fun k w1 w2 => ?_, fun o' k w => ?_, z4⟩
    · rw [zf_Arrays_fillB0_5, if_neg (nI_ge (by omega) (by omega)), hk, yq_g, hn, yn_b (show i < n by omega) hb, yq_g, nI_clamp (by omega), hv, yq_v, nI_1, yq_v]
      exact z1
    · by_cases e : k = i
      · rw [e, z3 _ _ (by omega), yt_ie]
      · exact z2 k (by omega) w2
    · rw [z3 _ _ (by omega), yt_in _ _ (by omega)]
theorem yf_Z1 {o n : Nat} (hk : zq_k 1 o 2 = true) (hn : (zd_sh 1 o).2 = n) (hb : n < 2 ^ 31) : ∀ d i N σ, i + d = n → d < N → ∃ σ', zf_Arrays_fillZ1_5 F N o 0 (nI i) (nI n) σ = some σ' ∧ (∀ k, i ≤ k → k < n → zs_i σ' o k = 0) ∧ (∀ o' k, ¬ (o' = o ∧ i ≤ k ∧ k < n) → zs_i σ' o' k = zs_i σ o' k) ∧ (∀ o k, zs_r σ' o k = zs_r σ o k) := by
  have hv : vp_nar .boolean 0 = 0 := by decide
  intro d
  induction d with
  | zero =>
    intro i N σ h1 h2
    obtain ⟨N, rfl⟩ : ∃ q, N = q + 1 := ⟨N - 1, by omega⟩
    refine ⟨σ, ?_, fun k w1 w2 => by omega, fun _ _ _ => rfl, fun _ _ => rfl⟩
    rw [zf_Arrays_fillZ1_5, if_pos (nI_le (by omega) (by omega))]
  | succ d ih =>
    intro i N σ h1 h2
    obtain ⟨N, rfl⟩ : ∃ q, N = q + 1 := ⟨N - 1, by omega⟩
    obtain ⟨σ', z1, z2, z3, z4⟩ := ih (i + 1) N (zs_wi σ o i 0) (by omega) (by omega)
    refine ⟨σ', ?_, fun k w1 w2 => ?_, fun o' k w => ?_, z4⟩
    · rw [zf_Arrays_fillZ1_5, if_neg (nI_ge (by omega) (by omega)), hk, yq_g, hn, yn_b (show i < n by omega) hb, yq_g, nI_clamp (by omega), hv, yq_v, nI_1, yq_v]
      exact z1
    · by_cases e : k = i
      · rw [e, z3 _ _ (by omega), yt_ie]
      · exact z2 k (by omega) w2
    · rw [z3 _ _ (by omega), yt_in _ _ (by omega)]
/-- values and places -/
theorem yvk_t : ∀ k, k < 256 → (nI k + (-128)).toInt = (k : Int) - 128 := by decide +kernel
theorem yvk_b : ∀ w, w < 256 → ∃ k, k < 256 ∧ yby w + 128 = nI k ∧ yby w - (-128) = nI k ∧ yby w = nI k + (-128) := by
  have h : ∀ w, w < 256 → yby w + 128 = nI ((w + 128) % 256) ∧ yby w - (-128) = nI ((w + 128) % 256) ∧ yby w = nI ((w + 128) % 256) + (-128) := by decide +kernel
  intro w hw
  exact ⟨(w + 128) % 256, by omega, h w hw⟩
theorem yvk_l {a b : Nat} (ha : a < 256) (hb : b < 256) : (nI a + (-128) < nI b + (-128)) ↔ a < b := by
  rw [Int32.lt_iff_toInt_lt, yvk_t a ha, yvk_t b hb]
  omega
theorem yvk_1 {a : Nat} (ha : a < 256) : nI a + (-128) < (1000 : Int32) := by
  rw [Int32.lt_iff_toInt_lt, yvk_t a ha, show (1000 : Int32).toInt = 1000 from by decide]
  omega
theorem yvk_2 {a : Nat} (ha : a < 256) : (-1000 : Int32) < nI a + (-128) := by
  rw [Int32.lt_iff_toInt_lt, yvk_t a ha, show (-1000 : Int32).toInt = -1000 from by decide]
  omega
/-- a set of values -/
def yub (M : Nat → Bool) (k0 k : Nat) : Bool := if k = k0 then true else M k
theorem yub_e {M : Nat → Bool} {k : Nat} : yub M k k = true := if_pos rfl
theorem yub_n {M : Nat → Bool} {k k0 : Nat} (h : k ≠ k0) : yub M k0 k = M k := if_neg h
def ycm (M : Nat → Bool) : Nat → Nat
  | 0 => 0
  | n + 1 => ycm M n + (if M n = true then 1 else 0)
theorem ycm_le {M : Nat → Bool} : ∀ n, ycm M n ≤ n := by
  intro n
  induction n with
  | zero => exact Nat.le_refl _
  | succ n ih =>
    show ycm M n + (if M n = true then 1 else 0) ≤ n + 1
    by_cases h : M n = true
    · rw [if_pos h]
      omega
    · rw [if_neg h]
      omega
theorem ycm_u {M : Nat → Bool} {k0 : Nat} (h : M k0 = false) : ∀ n, ycm (yub M k0) n = ycm M n + (if k0 < n then 1 else 0) := by
  intro n
  induction n with
  | zero => rfl
  | succ n ih =>
    show ycm (yub M k0) n + (if yub M k0 n = true then 1 else 0) = ycm M n + (if M n = true then 1 else 0) + _
    rw [ih]
    by_cases e : n = k0
    · rw [e, yub_e, h, if_pos rfl, if_neg (show ¬ false = true by decide), if_neg (show ¬ k0 < k0 by omega), if_pos (show k0 < k0 + 1 by omega)]
    · rw [yub_n e]
      by_cases e2 : k0 < n
      · rw [if_pos e2, if_pos (show k0 < n + 1 by omega)]
        omega
      · rw [if_neg e2, if_neg (show ¬ k0 < n + 1 by omega)]
        omega
theorem ycm_s {M : Nat → Bool} {k0 : Nat} (h : M k0 = true) : yub M k0 = M := by
  funext k
  by_cases e : k = k0
  · rw [e, yub_e, h]
  · rw [yub_n e]
def ylo (M : Nat → Bool) (n lo : Nat) : Prop := lo < n ∧ M lo = true ∧ ∀ k, k < lo → M k = false
def yhg (M : Nat → Bool) (n g : Nat) : Prop := g < n ∧ M g = true ∧ ∀ k, g < k → k < n → M k = false
/-- lowest, highest, how many, so far -/
def yPv (M : Nat → Bool) (n : Nat) (e4 : Int32) (x3 x4 x5 : Int32) : Prop := x5 = nI (ycm M n) ∧ ((ycm M n = 0 ∧ (∀ k, k < n → M k = false) ∧ x3 = 1000 ∧ x4 = e4) ∨ (0 < ycm M n ∧ (∃ lo, ylo M n lo ∧ x3 = nI lo + (-128)) ∧ ∃ g, yhg M n g ∧ x4 = nI g + (-128)))
def yMk (σ : zs_S) (o : Nat) (M : Nat → Bool) : Prop := ∀ k, k < 256 → zs_i σ o k = if M k = true then 1 else 0
theorem yMk_w {σ : zs_S} {o k0 : Nat} {M : Nat → Bool} (h : yMk σ o M) : yMk (zs_wi σ o k0 1) o (yub M k0) := by
  intro k hk
  by_cases e : k = k0
  · rw [e, yt_ie, yub_e, if_pos rfl]
  · rw [yt_in _ _ (by omega), yub_n e]
    exact h k hk
/-- one value more, in the reference -/
theorem yPv_r {M : Nat → Bool} {x3 x4 x5 : Int32} {k0 : Nat} (h : yPv M 256 (-1000) x3 x4 x5) (hk : k0 < 256) : yPv (yub M k0) 256 (-1000) (if nI k0 + (-128) < x3 then nI k0 + (-128) else x3) (if x4 < nI k0 + (-128) then nI k0 + (-128) else x4) (if M k0 = true then x5 else x5 + 1) := by
  obtain ⟨h1, h2⟩ := h
  cases hM : M k0 with
  | true =>
    rw [ycm_s hM, if_pos rfl]
    refine ⟨h1, ?_⟩
    rcases h2 with ⟨a1, a2, -⟩ | ⟨a1, ⟨lo, ⟨b1, b2, b3⟩, b4⟩, g, ⟨c1, c2, c3⟩, c4⟩
    · rw [a2 k0 hk] at hM
      exact absurd hM (by decide)
    · refine Or.inr ⟨a1, ⟨lo, ⟨b1, b2, b3⟩, ?_⟩, g, ⟨c1, c2, c3⟩, ?_⟩
      · rw [b4, if_neg (fun hh => ?_)]
        have := (yvk_l hk b1).mp hh
        rw [b3 k0 this] at hM
        exact absurd hM (by decide)
      · rw [c4, if_neg (fun hh => ?_)]
        have := (yvk_l c1 hk).mp hh
        rw [c3 k0 this hk] at hM
        exact absurd hM (by decide)
  | false =>
    have hc := ycm_u hM 256
    rw [if_pos hk] at hc
    rw [if_neg (show ¬ false = true by decide)]
    refine ⟨by rw [hc, h1, nI_1], Or.inr ⟨by omega, ?_⟩⟩
    rcases h2 with ⟨a1, a2, a3, a4⟩ | ⟨a1, ⟨lo, ⟨b1, b2, b3⟩, b4⟩, g, ⟨c1, c2, c3⟩, c4⟩
    · rw [a3, a4, if_pos (yvk_1 hk), if_pos (yvk_2 hk)]
      refine ⟨⟨k0, ⟨hk, yub_e, fun k w => ?_⟩, rfl⟩, k0, ⟨hk, yub_e, fun k w1 w2 => ?_⟩, rfl⟩
      · rw [yub_n (by omega)]
        exact a2 k (by omega)
      · rw [yub_n (by omega)]
        exact a2 k w2
    · have n1 : lo ≠ k0 := fun e => by
        rw [← e, b2] at hM
        exact absurd hM (by decide)
      have n2 : g ≠ k0 := fun e => by
        rw [← e, c2] at hM
        exact absurd hM (by decide)
      constructor
      · by_cases hlt : k0 < lo
        · rw [b4, if_pos ((yvk_l hk b1).mpr hlt)]
          refine ⟨k0, ⟨hk, yub_e, fun k w => ?_⟩, rfl⟩
          rw [yub_n (by omega)]
          exact b3 k (by omega)
        · rw [b4, if_neg (fun hh => hlt ((yvk_l hk b1).mp hh))]
          refine ⟨lo, ⟨b1, by rw [yub_n n1]; exact b2, fun k w => ?_⟩, rfl⟩
          rw [yub_n (by omega)]
          exact b3 k w
      · by_cases hgt : g < k0
        · rw [c4, if_pos ((yvk_l c1 hk).mpr hgt)]
          refine ⟨k0, ⟨hk, yub_e, fun k w1 w2 => ?_⟩, rfl⟩
          rw [yub_n (by omega)]
          exact c3 k (by omega) w2
        · rw [c4, if_neg (fun hh => hgt ((yvk_l c1 hk).mp hh))]
          refine ⟨g, ⟨c1, by rw [yub_n n2]; exact c2, fun k w1 w2 => ?_⟩, rfl⟩
          rw [yub_n (by omega)]
          exact c3 k w1 w2
/-- the class looks at all marks -/
theorem yx_scan {M : Nat → Bool} {b : Int32} {σ : zs_S} (hM : yMk σ 139 M) : ∀ d k N (x3 x4 x5 : Int32), k + d = 256 → d < N → yPv M k 1000 x3 x4 x5 → ∃ (y3 y4 y5 : Int32), zf_S_outcome_35 F N b x3 x4 x5 (nI k) σ = (if b = 0 then some (y3, σ) else if b = 1 then some (y4, σ) else if b = 2 then (if y5 = 0 then some (1000, σ) else some (y5, σ)) else some (1000, σ)) ∧ yPv M 256 1000 y3 y4 y5 := by
  intro d
  induction d with
  | zero =>
    intro k N x3 x4 x5 h1 h2 h3
    obtain ⟨N, rfl⟩ : ∃ q, N = q + 1 := ⟨N - 1, by omega⟩
    have hk : k = 256 := by omega
    subst hk
    refine ⟨x3, x4, x5, ?_, h3⟩
    rw [zf_S_outcome_35, if_pos (by decide)]
    rfl
  | succ d ih =>
    intro k N x3 x4 x5 h1 h2 h3
    obtain ⟨N, rfl⟩ : ∃ q, N = q + 1 := ⟨N - 1, by omega⟩
    have hk : k < 256 := by omega
    rw [zf_S_outcome_35, if_neg (show ¬ (256 : Int32) ≤ nI k from nI_ge (b := 256) hk (by decide)), yn_b hk (by decide), yq_g, nI_clamp (by omega), hM k hk]
    unfold zf_S_outcome_71 zf_S_outcome_75
    obtain ⟨p1, p2⟩ := h3
    have hcs : ycm M (k + 1) = ycm M k + (if M k = true then 1 else 0) := rfl
    cases hMk : M k with
    | false =>
      rw [hMk, if_neg (show ¬ false = true by decide)] at hcs
      rw [if_neg (show ¬ false = true by decide), if_pos y00, nI_1, yq_v]
      refine ih (k + 1) N x3 x4 x5 (by omega) (by omega) ⟨by rw [hcs]; exact p1, ?_⟩
      rcases p2 with ⟨a1, a2, a3, a4⟩ | ⟨a1, ⟨lo, ⟨b1, b2, b3⟩, b4⟩, g, ⟨c1, c2, c3⟩, c4⟩
      · refine Or.inl ⟨by omega, fun j hj => ?_, a3, a4⟩
        by_cases e : j = k
        · rw [e, hMk]
        · exact a2 j (by omega)
      · refine Or.inr ⟨by omega, ⟨lo, ⟨by omega, b2, b3⟩, b4⟩, g, ⟨by omega, c2, fun j w1 w2 => ?_⟩, c4⟩
        by_cases e : j = k
        · rw [e, hMk]
        · exact c3 j w1 (by omega)
    | true =>
      rw [hMk, if_pos rfl] at hcs
      rw [if_pos rfl, if_neg y01, yq_v, yq_v, nI_1, yq_v, yq_v, yq_v]
      have hz : (x5 = 0) = (ycm M k = 0) := by
        rw [p1]
        have := ycm_le (M := M) k
        exact propext (nI_eq (b := 0) (by omega) (by omega))
      rcases p2 with ⟨a1, a2, a3, a4⟩ | ⟨a1, ⟨lo, ⟨b1, b2, b3⟩, b4⟩, g, ⟨c1, c2, c3⟩, c4⟩
      · rw [if_pos (hz.mpr a1)]
        refine ih (k + 1) N _ _ _ (by omega) (by omega) ⟨by rw [p1, hcs, nI_1], Or.inr ⟨by omega, ⟨k, ⟨by omega, hMk, a2⟩, rfl⟩, k, ⟨by omega, hMk, fun j w1 w2 => by omega⟩, rfl⟩⟩
      · rw [if_neg (fun hh => by have := hz.mp hh; omega)]
        refine ih (k + 1) N _ _ _ (by omega) (by omega) ⟨by rw [p1, hcs, nI_1], Or.inr ⟨by omega, ⟨lo, ⟨by omega, b2, b3⟩, b4⟩, k, ⟨by omega, hMk, fun j w1 w2 => by omega⟩, rfl⟩⟩
end YQO
