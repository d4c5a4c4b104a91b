/-! explorer: what is kept, as a value; rows that follow -/
section YWD
variable {F n m p q t V L T : Nat} {v : Nat → Nat}
def yeqr (C X : Nat → Int32) : Bool := (List.range 34).all (fun k => decide (C k = X k))
theorem yeqr_i {C X : Nat → Int32} : yeqr C X = true ↔ ∀ k, k < 34 → C k = X k := by
  unfold yeqr
  simp only [List.all_eq_true, List.mem_range, decide_eq_true_eq]
def yfd (R : Nat → Nat → Int32) (X : Nat → Int32) : Nat → Option Nat
  | 0 => none
  | n + 1 => if yeqr (R n) X = true then some n else yfd R X n
theorem yfd_c {R : Nat → Nat → Int32} {X : Nat → Int32} : ∀ n, (∃ u, yfd R X n = some u ∧ u < n ∧ ∀ k, k < 34 → R u k = X k) ∨ (yfd R X n = none ∧ ∀ u, u < n → ¬ ∀ k, k < 34 → R u k = X k) := by
  intro n
  induction n with
  | zero => exact Or.inr ⟨rfl, fun u h => by omega⟩
  | succ n ih =>
    unfold yfd
    by_cases h : yeqr (R n) X = true
    · rw [if_pos h]
      exact Or.inl ⟨n, rfl, by omega, yeqr_i.mp h⟩
    · rw [if_neg h]
      rcases ih with ⟨u, h1, h2, h3⟩ | ⟨h1, h2⟩
      · exact Or.inl ⟨u, h1, by omega, h3⟩
      · refine Or.inr ⟨h1, fun u hu he => ?_⟩
        by_cases e : u = n
        · subst e
          exact h (yeqr_i.mpr he)
        · exact h2 u (by omega) he
/-- a row is kept -/
def ykp (s : Nat) (x2 : Int32) (W : Nat × (Nat → Nat → Int32) × (Nat → Int32) × (Nat → Int32) × (Nat → Int32) × Nat × (Nat → Nat) × Bool) (X : Nat → Int32) : Nat × (Nat → Nat → Int32) × (Nat → Int32) × (Nat → Int32) × (Nat → Int32) × Nat × (Nat → Nat) × Bool := match yfd W.2.1 X W.1 with
  | some u => (W.1, W.2.1, W.2.2.1, W.2.2.2.1, W.2.2.2.2.1, W.2.2.2.2.2.1 + 1, yup W.2.2.2.2.2.2.1 W.2.2.2.2.2.1 u, W.2.2.2.2.2.2.2)
  | none => if W.1 = 800 then (W.1, W.2.1, W.2.2.1, W.2.2.2.1, W.2.2.2.2.1, W.2.2.2.2.2.1, W.2.2.2.2.2.2.1, true) else (W.1 + 1, yRu W.2.1 W.1 X, yU W.2.2.1 W.1 (W.2.2.1 s + 1), yU W.2.2.2.1 W.1 (nI s), yU W.2.2.2.2.1 W.1 x2, W.2.2.2.2.2.1 + 1, yup W.2.2.2.2.2.2.1 W.2.2.2.2.2.1 W.1, W.2.2.2.2.2.2.2)
theorem ykp_s {s u : Nat} {x2 : Int32} {W : Nat × (Nat → Nat → Int32) × (Nat → Int32) × (Nat → Int32) × (Nat → Int32) × Nat × (Nat → Nat) × Bool} {X : Nat → Int32} (h : yfd W.2.1 X W.1 = some u) : ykp s x2 W X = (W.1, W.2.1, W.2.2.1, W.2.2.2.1, W.2.2.2.2.1, W.2.2.2.2.2.1 + 1, yup W.2.2.2.2.2.2.1 W.2.2.2.2.2.1 u, W.2.2.2.2.2.2.2) := by
  unfold ykp
  rw [h]
theorem ykp_f {s : Nat} {x2 : Int32} {W : Nat × (Nat → Nat → Int32) × (Nat → Int32) × (Nat → Int32) × (Nat → Int32) × Nat × (Nat → Nat) × Bool} {X : Nat → Int32} (h : yfd W.2.1 X W.1 = none) (h8 : W.1 = 800) : ykp s x2 W X = (W.1, W.2.1, W.2.2.1, W.2.2.2.1, W.2.2.2.2.1, W.2.2.2.2.2.1, W.2.2.2.2.2.2.1, true) := by
  unfold ykp
  rw [h]
  exact if_pos h8
theorem ykp_n {s : Nat} {x2 : Int32} {W : Nat × (Nat → Nat → Int32) × (Nat → Int32) × (Nat → Int32) × (Nat → Int32) × Nat × (Nat → Nat) × Bool} {X : Nat → Int32} (h : yfd W.2.1 X W.1 = none) (h8 : ¬ W.1 = 800) : ykp s x2 W X = (W.1 + 1, yRu W.2.1 W.1 X, yU W.2.2.1 W.1 (W.2.2.1 s + 1), yU W.2.2.2.1 W.1 (nI s), yU W.2.2.2.2.1 W.1 x2, W.2.2.2.2.2.1 + 1, yup W.2.2.2.2.2.2.1 W.2.2.2.2.2.1 W.1, W.2.2.2.2.2.2.2) := by
  unfold ykp
  rw [h]
  exact if_neg h8
/-- what is sure of it -/
theorem ykp_g {s : Nat} {x2 : Int32} {W : Nat × (Nat → Nat → Int32) × (Nat → Int32) × (Nat → Int32) × (Nat → Int32) × Nat × (Nat → Nat) × Bool} {X : Nat → Int32} : W.1 ≤ (ykp s x2 W X).1 ∧ W.2.2.2.2.2.1 ≤ (ykp s x2 W X).2.2.2.2.2.1 ∧ (ykp s x2 W X).2.2.2.2.2.1 ≤ W.2.2.2.2.2.1 + 1 ∧ (∀ u, u < W.1 → (ykp s x2 W X).2.1 u = W.2.1 u) ∧ (∀ u, u < (ykp s x2 W X).1 → u < W.1 ∨ (ykp s x2 W X).2.1 u = X) ∧ (W.2.2.2.2.2.2.2 = true → (ykp s x2 W X).2.2.2.2.2.2.2 = true) ∧ (W.1 ≤ 800 → (ykp s x2 W X).1 ≤ 800) := by
  rcases yfd_c (R := W.2.1) (X := X) W.1 with ⟨u, h1, h2, h3⟩ | ⟨h1, h2⟩
  · rw [ykp_s h1]
    exact ⟨Nat.le_refl _, Nat.le_succ _, Nat.le_refl _, fun _ _ => rfl, fun u hu => Or.inl hu, fun h => h, fun h => h⟩
  · by_cases h8 : W.1 = 800
    · rw [ykp_f h1 h8]
      exact ⟨Nat.le_refl _, Nat.le_refl _, Nat.le_succ _, fun _ _ => rfl, fun u hu => Or.inl hu, fun _ => rfl, fun h => h⟩
    · rw [ykp_n h1 h8]
      refine ⟨Nat.le_succ _, Nat.le_succ _, Nat.le_refl _, fun u hu => yRu_n (by omega), fun u hu => ?_, fun h => h, fun h => ?_⟩
      · have hu : u < W.1 + 1 := hu
        by_cases e : u = W.1
        · exact Or.inr (by rw [e]; exact yRu_e _ _ _)
        · exact Or.inl (by omega)
      · show W.1 + 1 ≤ 800
        omega
/-- the class's and the reference's store hold it -/
def ycW (σ : zs_S) (W : Nat × (Nat → Nat → Int32) × (Nat → Int32) × (Nat → Int32) × (Nat → Int32) × Nat × (Nat → Nat) × Bool) : Prop := yWc σ W.1 W.2.1 W.2.2.1 W.2.2.2.1 W.2.2.2.2.1 W.2.2.2.2.2.1 W.2.2.2.2.2.2.1 ∧ zs_i σ 10 11 = (if W.2.2.2.2.2.2.2 = true then 1 else 0)
def ymW (τ : zs_S) (tt : Nat) (W : Nat × (Nat → Nat → Int32) × (Nat → Int32) × (Nat → Int32) × (Nat → Int32) × Nat × (Nat → Nat) × Bool) : Prop := yWm τ tt W.1 W.2.1 W.2.2.1 W.2.2.2.1 W.2.2.2.2.1 W.2.2.2.2.2.1 W.2.2.2.2.2.2.1
/-- what the explorers may change -/
def yfE (p : Nat) (σ σ' : zs_S) : Prop := (∀ o k, ¬ (10 ≤ o ∧ o ≤ 19) → o ≠ p + 58 → zs_i σ' o k = zs_i σ o k) ∧ (∀ o k, zs_r σ' o k = zs_r σ o k) ∧ (∀ o k, zs_l σ' o k = zs_l σ o k)
def yfG (τ τ' : zs_S) : Prop := (∀ o k, ¬ (o = 1 ∧ (k = 23 ∨ k = 24)) → ¬ (58 ≤ o ∧ o ≤ 63 ∧ o ≠ 62) → o ≠ 65 → o ≠ 66 → zs_i τ' o k = zs_i τ o k) ∧ (∀ o k, zs_r τ' o k = zs_r τ o k)
theorem yfE_r (σ : zs_S) : yfE p σ σ := ⟨fun _ _ _ _ => rfl, fun _ _ => rfl, fun _ _ => rfl⟩
theorem yfG_r (τ : zs_S) : yfG τ τ := ⟨fun _ _ _ _ _ _ => rfl, fun _ _ => rfl⟩
theorem yfE_t {a b c : zs_S} (h : yfE p a b) (g : yfE p b c) : yfE p a c := ⟨fun o k x y => (g.1 o k x y).trans (h.1 o k x y), fun o k => (g.2.1 o k).trans (h.2.1 o k), fun o k => (g.2.2 o k).trans (h.2.2 o k)⟩
theorem yfG_t {a b c : zs_S} (h : yfG a b) (g : yfG b c) : yfG a c := ⟨fun o k x y z w => (g.1 o k x y z w).trans (h.1 o k x y z w), fun o k => (g.2 o k).trans (h.2 o k)⟩
theorem yc_keep {s : Nat} {x2 : Int32} {W : Nat × (Nat → Nat → Int32) × (Nat → Int32) × (Nat → Int32) × (Nat → Int32) × Nat × (Nat → Nat) × Bool} {X : Nat → Int32} {σ : zs_S} (h : ycW σ W) (hX : yXb σ W.1 X) (hs : s < W.1) (hK : W.2.2.2.2.2.1 < 3200) (hF : 900 < F) (h16 : zs_i σ 16 (s + 1) = nI W.2.2.2.2.2.1) : ∃ σ', zf_States_keep F (nI s) x2 σ = some σ' ∧ ycW σ' (ykp s x2 W X) ∧ zs_i σ' 16 (s + 1) = nI (ykp s x2 W X).2.2.2.2.2.1 ∧ (∀ k, k ≠ s + 1 → zs_i σ' 16 k = zs_i σ 16 k) ∧ (∀ k, zs_i σ' 11 k = zs_i σ 11 k) ∧ yfE p σ σ' := by
  obtain ⟨hW, hov⟩ := h
  obtain ⟨σ', e1, f1, hx⟩ := yy_keep (F := F) (x2 := x2) hW hX hs hK hF
  have fE : yfE p σ σ' := ⟨fun o k x y => f1.1 o k (by omega) (by omega) (by omega) (by omega) (by omega), f1.2.1, f1.2.2⟩
  have f16 : ∀ k, k ≠ s + 1 → zs_i σ' 16 k = zs_i σ 16 k := fun k hk => f1.1 _ _ (by omega) (by omega) (by omega) (by omega) (by omega)
  have f11 : ∀ k, zs_i σ' 11 k = zs_i σ 11 k := fun k => f1.1 _ _ (by omega) (by omega) (by omega) (by omega) (by omega)
  rcases yfd_c (R := W.2.1) (X := X) W.1 with ⟨u, h1, h2, h3⟩ | ⟨h1, h2⟩
  · rw [ykp_s h1]
    rcases hx with ⟨u', g1, g2, g3, g4, g5⟩ | ⟨g1, -⟩
    · have hu : u' = u := hW.1.2.2.1 u' u g1 h2 (fun k hk => (g2 k hk).trans (h3 k hk).symm)
      subst hu
      exact ⟨σ', e1, ⟨g3, g5.trans hov⟩, g4, f16, f11, fE⟩
    · exact absurd h3 (g1 u h2)
  · rcases hx with ⟨u', g1, g2, -⟩ | ⟨-, ⟨g8, g9⟩ | ⟨g8, g9, g10, g11⟩⟩
    · exact absurd g2 (h2 u' g1)
    · rw [ykp_f h1 g8]
      refine ⟨σ', e1, ⟨?_, ?_⟩, ?_, f16, f11, fE⟩
      · rw [g9]
        obtain ⟨⟨⟨a1, a2⟩, a3, a4, a5, a6, a7⟩, b1, b2, b3⟩ := hW
        exact ⟨⟨⟨(yt_in _ _ (by omega)).trans a1, a2⟩, fun s k hs hk => (yt_in _ _ (by omega)).trans (a3 s k hs hk), a4, fun s hs => (yt_in _ _ (by omega)).trans (a5 s hs), fun b hb => (yt_in _ _ (by omega)).trans (a6 b hb), fun s hs => (yt_in _ _ (by omega)).trans (a7 s hs)⟩, fun s hs => ⟨(yt_in _ _ (by omega)).trans (b1 s hs).1, (yt_in _ _ (by omega)).trans (b1 s hs).2.1, (yt_in _ _ (by omega)).trans (b1 s hs).2.2⟩, (yt_in _ _ (by omega)).trans b2, fun j hj => (yt_in _ _ (by omega)).trans (b3 j hj)⟩
      · rw [g9, yt_ie]
        rfl
      · rw [g9, yt_in _ _ (by omega)]
        exact h16
    · rw [ykp_n h1 (by omega)]
      exact ⟨σ', e1, ⟨g9, g11.trans hov⟩, g10, f16, f11, fE⟩
theorem ym_keep {tt s : Nat} {x2 : Int32} {W : Nat × (Nat → Nat → Int32) × (Nat → Int32) × (Nat → Int32) × (Nat → Int32) × Nat × (Nat → Nat) × Bool} {X : Nat → Int32} {τ : zs_S} (h : ymW τ tt W) (hX : yXt τ tt X) (h0 : ∀ t, tt ≤ t → t < 4 → X (12 + t) = 0 ∧ ∀ u, u < W.1 → W.2.1 u (12 + t) = 0) (hdis : ∀ s s', s < W.1 → s' < W.1 → (∀ k, k < 34 → W.2.1 s k = W.2.1 s' k) → s = s') (hat : zs_i τ 1 28 = nI s) (hth : zs_i τ 1 29 = x2) (hs : s < W.1) (hK : W.2.2.2.2.2.1 < 3200) (hF : 900 < F) : ∃ (r : Int32) (τ' : zs_S), zf_M_reach F τ = some (r, τ') ∧ yfG τ τ' ∧ ((r = 1 ∧ ymW τ' tt (ykp s x2 W X) ∧ (ykp s x2 W X).2.2.2.2.2.2.2 = W.2.2.2.2.2.2.2) ∨ (r = 0 ∧ (ykp s x2 W X).2.2.2.2.2.2.2 = true)) := by
  obtain ⟨r, τ', e1, f1, hx⟩ := ym_reach (F := F) (x2 := x2) h hX (fun u t hu h1 h2 => ⟨(h0 t h1 h2).2 u hu, (h0 t h1 h2).1⟩) hat hth hs hK hF
  have fG : yfG τ τ' := ⟨fun o k x y z w => f1.1 o k (by omega) (by omega) (by omega) (by omega), f1.2⟩
  refine ⟨r, τ', e1, fG, ?_⟩
  rcases yfd_c (R := W.2.1) (X := X) W.1 with ⟨u, h1, h2, h3⟩ | ⟨h1, h2⟩
  · rw [ykp_s h1]
    rcases hx with ⟨u', g1, g2, g3, g4⟩ | ⟨g1, -⟩
    · have hu : u' = u := hdis u' u g1 h2 (fun k hk => (g2 k hk).trans (h3 k hk).symm)
      subst hu
      exact Or.inl ⟨g3, g4, rfl⟩
    · exact absurd h3 (g1 u h2)
  · rcases hx with ⟨u', g1, g2, -⟩ | ⟨-, ⟨g8, g9, g10⟩ | ⟨g8, g9, g10⟩⟩
    · exact absurd g2 (h2 u' g1)
    · rw [ykp_f h1 g8]
      exact Or.inr ⟨g9, rfl⟩
    · rw [ykp_n h1 (by omega)]
      exact Or.inl ⟨g9, g10, rfl⟩
end YWD
