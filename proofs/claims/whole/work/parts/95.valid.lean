/-! explorer: rows that follow can come too -/
section YVA
variable {F n m p q t V L T : Nat} {v : Nat → Nat}
theorem yRV_pl {tt t : Nat} {B kd : Nat → Nat} {C : Nat → Int32} {y : Int32} (h : yRV tt B kd C) (ht : t < tt) (h4 : tt ≤ 4) (hm : C (16 + t) = 0) (hb : B (t + 1) ≤ 50) (hy : y = -1 ∨ ∃ z, B t ≤ z ∧ z < B (t + 1) ∧ y = nI z) : yRV tt B kd (yU C (12 + t) y) := by
  obtain ⟨v1, v2, v3, v4, v5, v6⟩ := h
  refine ⟨fun k hk => ?_, fun t' h1 h2 => ?_, fun t' h1 => ?_, fun t' h1 => ?_, fun l hl => ?_, ?_⟩
  · by_cases e : k = 12 + t
    · rw [e, yU_e]
      exact yb8_w hy hb
    · rw [yU_n e]
      exact v1 k hk
  · rw [yU_n (by omega)]
    exact v2 t' h1 h2
  · by_cases e : t' = t
    · rw [e, yU_e]
      exact hy
    · rw [yU_n (by omega)]
      exact v3 t' h1
  · by_cases e : t' = t
    · rw [e, yU_n (by omega)]
      exact Or.inl hm
    · rw [yU_n (by omega), yU_n (by omega)]
      exact v4 t' h1
  · rw [yU_n (by omega)]
    exact v5 l hl
  · rw [yU_n (by omega)]
    exact v6
theorem yRV_ow {tt k : Nat} {B kd : Nat → Nat} {C : Nat → Int32} {x : Int32} (h : yRV tt B kd C) (hk1 : 8 ≤ k) (hk2 : k < 12) (hx : x = -1 ∨ ∃ t, t < 4 ∧ x = nI t) : yRV tt B kd (yU C k x) := by
  obtain ⟨v1, v2, v3, v4, v5, v6⟩ := h
  refine ⟨fun j hj => ?_, fun t' h1 h2 => ?_, fun t' h1 => ?_, fun t' h1 => ?_, fun l hl => ?_, ?_⟩
  · by_cases e : j = k
    · rw [e, yU_e]
      rcases hx with hx | ⟨t, t1, t2⟩
      · rw [hx]
        exact (yb8_n 1 (by decide)).2
      · rw [t2]
        exact (yb8_n t (by omega)).1
    · rw [yU_n e]
      exact v1 j hj
  · rw [yU_n (by omega)]
    exact v2 t' h1 h2
  · rw [yU_n (by omega)]
    exact v3 t' h1
  · rw [yU_n (by omega), yU_n (by omega)]
    exact v4 t' h1
  · by_cases e : 8 + l = k
    · rw [e, yU_e]
      exact hx
    · rw [yU_n e]
      exact v5 l hl
  · rw [yU_n (by omega)]
    exact v6
theorem yRV_da {tt k : Nat} {B kd : Nat → Nat} {C : Nat → Int32} {x : Int32} (h : yRV tt B kd C) (h4 : tt ≤ 4) (hk : k < 8 ∨ (20 ≤ k ∧ k < 32) ∨ k = 33) (hx : yb8 x) : yRV tt B kd (yU C k x) := by
  obtain ⟨v1, v2, v3, v4, v5, v6⟩ := h
  refine ⟨fun j hj => ?_, fun t' h1 h2 => ?_, fun t' h1 => ?_, fun t' h1 => ?_, fun l hl => ?_, ?_⟩
  · by_cases e : j = k
    · rw [e, yU_e]
      exact hx
    · rw [yU_n e]
      exact v1 j hj
  · rw [yU_n (by omega)]
    exact v2 t' h1 h2
  · rw [yU_n (by omega)]
    exact v3 t' h1
  · rw [yU_n (by omega), yU_n (by omega)]
    exact v4 t' h1
  · rw [yU_n (by omega)]
    exact v5 l hl
  · rw [yU_n (by omega)]
    exact v6
theorem yRV_er {tt : Nat} {B kd : Nat → Nat} {C : Nat → Int32} {x : Int32} (h : yRV tt B kd C) (h4 : tt ≤ 4) (hx : x = 0 ∨ x = 1 ∨ x = 2) : yRV tt B kd (yU C 32 x) := by
  obtain ⟨v1, v2, v3, v4, v5, v6⟩ := h
  refine ⟨fun j hj => ?_, fun t' h1 h2 => ?_, fun t' h1 => ?_, fun t' h1 => ?_, fun l hl => ?_, ?_⟩
  · by_cases e : j = 32
    · rw [e, yU_e]
      rcases hx with hx | hx | hx
      · rw [hx]
        exact yb8_01.1
      · rw [hx]
        exact yb8_01.2
      · rw [hx]
        exact (yb8_n 2 (by decide)).1
    · rw [yU_n e]
      exact v1 j hj
  · rw [yU_n (by omega)]
    exact v2 t' h1 h2
  · rw [yU_n (by omega)]
    exact v3 t' h1
  · rw [yU_n (by omega), yU_n (by omega)]
    exact v4 t' h1
  · rw [yU_n (by omega)]
    exact v5 l hl
  · rw [yU_e]
    exact hx
theorem yRV_md {tt t : Nat} {B kd : Nat → Nat} {C : Nat → Int32} {x : Int32} (h : yRV tt B kd C) (ht : t < tt) (h4 : tt ≤ 4) (hx : x = 0 ∨ ((x = 1 ∨ x = 2) ∧ ∃ y, B t ≤ y ∧ y < B (t + 1) ∧ C (12 + t) = nI y ∧ kd y = 3)) : yRV tt B kd (yU C (16 + t) x) := by
  obtain ⟨v1, v2, v3, v4, v5, v6⟩ := h
  refine ⟨fun j hj => ?_, fun t' h1 h2 => ?_, fun t' h1 => ?_, fun t' h1 => ?_, fun l hl => ?_, ?_⟩
  · by_cases e : j = 16 + t
    · rw [e, yU_e]
      rcases hx with hx | ⟨hx | hx, -⟩
      · rw [hx]
        exact yb8_01.1
      · rw [hx]
        exact yb8_01.2
      · rw [hx]
        exact (yb8_n 2 (by decide)).1
    · rw [yU_n e]
      exact v1 j hj
  · rw [yU_n (by omega)]
    exact v2 t' h1 h2
  · rw [yU_n (by omega)]
    exact v3 t' h1
  · by_cases e : t' = t
    · rw [e, yU_e, yU_n (by omega)]
      exact hx
    · rw [yU_n (by omega), yU_n (by omega)]
      exact v4 t' h1
  · rw [yU_n (by omega)]
    exact v5 l hl
  · rw [yU_n (by omega)]
    exact v6
theorem ywf_m {tg : Nat → Nat} {C : Nat → Int32} {c : Nat} : ∀ d j w, w ∈ ywf tg C c j d → j ≤ w ∧ w < j + d ∧ yww tg C c w := by
  intro d
  induction d with
  | zero => intro j w h; exact absurd h List.not_mem_nil
  | succ d ih =>
    intro j w h
    have h : w ∈ (if yw1 tg C c j = true then j :: ywf tg C c (j + 1) d else ywf tg C c (j + 1) d) := h
    by_cases e : yw1 tg C c j = true
    · rw [if_pos e] at h
      rcases List.mem_cons.mp h with h | h
      · rw [h]
        exact ⟨by omega, by omega, yw1_i.mp e⟩
      · have := ih (j + 1) w h
        exact ⟨by omega, by omega, this.2.2⟩
    · rw [if_neg e] at h
      have := ih (j + 1) w h
      exact ⟨by omega, by omega, this.2.2⟩
theorem ywa_v {tt : Nat} {B kd tg : Nat → Nat} {C : Nat → Int32} {c : Nat} (hC : yRV tt B kd C) (h4 : tt ≤ 4) : ∀ d j D, j + d ≤ tt → yRV tt B kd D → (∀ w, w < 4 → D (12 + w) = C (12 + w)) → yRV tt B kd (ywa tg C c D j d) ∧ (∀ k, ¬ (16 ≤ k ∧ k < 20) → ywa tg C c D j d k = D k) ∧ (∀ w, w < 4 → ¬ C (16 + w) = 1 → ywa tg C c D j d (16 + w) = D (16 + w)) := by
  intro d
  induction d with
  | zero => intro j D _ h _; exact ⟨h, fun _ _ => rfl, fun _ _ _ => rfl⟩
  | succ d ih =>
    intro j D hj h hpl
    show yRV tt B kd (ywa tg C c (if yw1 tg C c j = true then yU D (16 + j) 2 else D) (j + 1) d) ∧ (∀ k, ¬ (16 ≤ k ∧ k < 20) → ywa tg C c (if yw1 tg C c j = true then yU D (16 + j) 2 else D) (j + 1) d k = D k) ∧ (∀ w, w < 4 → ¬ C (16 + w) = 1 → ywa tg C c (if yw1 tg C c j = true then yU D (16 + j) 2 else D) (j + 1) d (16 + w) = D (16 + w))
    by_cases e : yw1 tg C c j = true
    · rw [if_pos e]
      have hw := (yw1_i.mp e).1
      have hy : ∃ y, B j ≤ y ∧ y < B (j + 1) ∧ C (12 + j) = nI y ∧ kd y = 3 := by
        rcases hC.2.2.2.1 j (by omega) with hh | ⟨-, hh⟩
        · rw [hh] at hw
          exact absurd hw (by decide)
        · exact hh
      obtain ⟨y, y1, y2, y3, y4⟩ := hy
      have hv := yRV_md (x := 2) h (show j < tt by omega) h4 (Or.inr ⟨Or.inr rfl, y, y1, y2, by rw [hpl j (by omega)]; exact y3, y4⟩)
      obtain ⟨z1, z2, z3⟩ := ih (j + 1) (yU D (16 + j) 2) (by omega) hv (fun w hw4 => by rw [yU_n (by omega)]; exact hpl w hw4)
      refine ⟨z1, fun k hk => (z2 k hk).trans (yU_n (by omega)), fun w hw4 hn => (z3 w hw4 hn).trans (yU_n (fun e2 => hn (by rw [show w = j by omega]; exact hw)))⟩
    · rw [if_neg e]
      exact ih (j + 1) D (by omega) h hpl
theorem ysu_v {tt S t : Nat} {B Tt kd tg : Nat → Nat} {wy : Nat → Nat → Int32} {ex : Nat → List (Nat × Int32)} {C : Nat → Int32} (hpp : yPp V L tt S B Tt kd tg wy ex) (hC : yRV tt B kd C) (ht : t < tt) (hrd : yrd kd tg C t) : ∀ X, X ∈ ysu tt kd tg wy ex C t → yRV tt B kd X := by
  have h4 : tt ≤ 4 := hpp.1.2.2.2.1
  have ht4 : t < 4 := by omega
  obtain ⟨v1, v2, v3, v4, v5, v6⟩ := id hC
  obtain ⟨x, x1, x2, x3⟩ : ∃ y, B t ≤ y ∧ y < B (t + 1) ∧ C (12 + t) = nI y := by
    rcases v3 t ht with hh | hh
    · exact absurd hh hrd.1
    · exact hh
  have hBt := hpp.2.1.2.2.2 (t + 1) (by omega)
  have hS50 := hpp.1
  have hb50 : B (t + 1) ≤ 50 := by omega
  obtain ⟨q1, q2, q3, q4, q5⟩ := hpp.2.2.2 t x ht x1 x2
  have hT3 := hpp.2.2.1 t ht
  have hpl : ypl C t = x := by
    unfold ypl
    rw [x3, nI_clamp (by omega)]
  have one : ∀ (D X : Nat → Int32), yRV tt B kd D → X ∈ [D] → yRV tt B kd X := by
    intro D X hD hX
    rw [List.mem_singleton] at hX
    rw [hX]
    exact hD
  have hw0 : ¬ (kd x = 7 ∨ kd x = 8 ∨ kd x = 9) → (wy x 0 = -1 ∨ ∃ y, B t ≤ y ∧ y < B (t + 1) ∧ wy x 0 = nI y) := fun hh => q4 0 (by omega) (Or.inl ⟨rfl, by omega, by omega, by omega⟩)
  have htn : ∃ t', t' < 4 ∧ nI t = nI t' := ⟨t, ht4, rfl⟩
  have bt : yb8 (nI t) := (yb8_n t (by omega)).1
  intro X hX
  unfold ysu at hX
  rw [hpl] at hX
  by_cases m2 : C (16 + t) = 2
  · rw [if_pos m2] at hX
    have hk3 : kd x = 3 := by
      rcases v4 t ht with hh | ⟨-, y, y1, y2, y3, y4⟩
      · rw [hh] at m2
        exact absurd m2 (by decide)
      · have : x = y := (nI_eq (by omega) (by omega)).mp (x3.symm.trans y3)
        subst this
        exact y4
    have htg := q3 (by omega)
    exact one _ X (yRV_pl (yRV_ow (yRV_md (x := 0) hC ht h4 (Or.inl rfl)) (by omega) (by omega) (Or.inr htn)) ht h4 (by rw [yU_n (by omega), yU_e]) hb50 (hw0 (by omega))) hX
  · rw [if_neg m2] at hX
    have m0 : C (16 + t) = 0 := by
      rcases v4 t ht with hh | ⟨hh | hh, -⟩
      · exact hh
      · exact absurd hh hrd.2.1
      · exact absurd hh m2
    by_cases hno : (2 ≤ kd x ∧ kd x ≤ 5) ∧ ¬ C (tg x) = nI t
    · rw [if_pos hno] at hX
      exact one _ X (yRV_da (yRV_er hC h4 (Or.inr (Or.inr rfl))) h4 (by omega) bt) hX
    · rw [if_neg hno] at hX
      by_cases e0 : kd x = 0
      · rw [if_pos e0] at hX
        have htg := q2 e0
        exact one _ X (yRV_pl (yRV_da hC h4 (by omega) (yval_b v1 ⟨by omega, ht4, hT3⟩ (q5 (Or.inl e0)).1)) ht h4 (by rw [yU_n (by omega)]; exact m0) hb50 (hw0 (by omega))) hX
      · rw [if_neg e0] at hX
        by_cases e1 : kd x = 1
        · rw [if_pos e1] at hX
          have htg := q3 (by omega)
          exact one _ X (yRV_pl (yRV_ow hC (by omega) (by omega) (Or.inr htn)) ht h4 (by rw [yU_n (by omega)]; exact m0) hb50 (hw0 (by omega))) hX
        · rw [if_neg e1] at hX
          by_cases e2 : kd x = 2
          · rw [if_pos e2] at hX
            have htg := q3 (by omega)
            exact one _ X (yRV_pl (yRV_ow hC (by omega) (by omega) (Or.inl rfl)) ht h4 (by rw [yU_n (by omega)]; exact m0) hb50 (hw0 (by omega))) hX
          · rw [if_neg e2] at hX
            by_cases e3 : kd x = 3
            · rw [if_pos e3] at hX
              have htg := q3 (by omega)
              exact one _ X (yRV_md (yRV_ow hC (by omega) (by omega) (Or.inl rfl)) ht h4 (Or.inr ⟨Or.inl rfl, x, x1, x2, by rw [yU_n (by omega)]; exact x3, e3⟩)) hX
            · rw [if_neg e3] at hX
              by_cases e4 : kd x = 4
              · rw [if_pos e4] at hX
                by_cases hn : ywf tg C (tg x) 0 tt = []
                · rw [if_pos hn] at hX
                  exact one _ X (yRV_pl hC ht h4 m0 hb50 (hw0 (by omega))) hX
                · rw [if_neg hn] at hX
                  obtain ⟨w, w1, w2⟩ := List.mem_map.mp hX
                  obtain ⟨w3, w4, w5⟩ := ywf_m tt 0 w w1
                  have hwt : w ≠ t := fun e => by
                    have := w5.1
                    rw [e, m0] at this
                    exact absurd this (by decide)
                  rw [← w2]
                  have hy : ∃ y, B w ≤ y ∧ y < B (w + 1) ∧ C (12 + w) = nI y ∧ kd y = 3 := by
                    rcases v4 w (by omega) with hh | ⟨-, hh⟩
                    · have := w5.1
                      rw [hh] at this
                      exact absurd this (by decide)
                    · exact hh
                  exact yRV_pl (yRV_md hC (show w < tt by omega) h4 (Or.inr ⟨Or.inr rfl, hy⟩)) ht h4 (by rw [yU_n (by omega)]; exact m0) hb50 (hw0 (by omega))
              · rw [if_neg e4] at hX
                by_cases e5 : kd x = 5
                · rw [if_pos e5] at hX
                  obtain ⟨z1, z2, z3⟩ := ywa_v (tg := tg) (c := tg x) hC h4 tt 0 C (by omega) hC (fun _ _ => rfl)
                  exact one _ X (yRV_pl z1 ht h4 (by rw [z3 t ht4 hrd.2.1]; exact m0) hb50 (hw0 (by omega))) hX
                · rw [if_neg e5] at hX
                  by_cases e6 : kd x = 6
                  · rw [if_pos e6] at hX
                    by_cases hz : yval C (ex x) = 0
                    · rw [if_pos hz] at hX
                      exact one _ X (yRV_da (yRV_er hC h4 (Or.inr (Or.inl rfl))) h4 (by omega) bt) hX
                    · rw [if_neg hz] at hX
                      exact one _ X (yRV_pl hC ht h4 m0 hb50 (hw0 (by omega))) hX
                  · rw [if_neg e6] at hX
                    by_cases e9 : kd x = 9
                    · rw [if_pos e9] at hX
                      exact one _ X (yRV_pl hC ht h4 m0 hb50 (Or.inl rfl)) hX
                    · rw [if_neg e9] at hX
                      have hk2 : yVl (1100 + kd x) 1 ∧ yVl (1100 + kd x) 2 := ⟨Or.inr ⟨by omega, by omega⟩, Or.inr ⟨by omega, by omega⟩⟩
                      refine one _ X (yRV_pl hC ht h4 m0 hb50 ?_) hX
                      by_cases hz : yval C (ex x) = 0
                      · rw [if_pos hz]
                        exact q4 2 (by omega) hk2.2
                      · rw [if_neg hz]
                        exact q4 1 (by omega) hk2.1
/-- a world of rows that can come -/
def yWV (tt : Nat) (B kd : Nat → Nat) (W : Nat × (Nat → Nat → Int32) × (Nat → Int32) × (Nat → Int32) × (Nat → Int32) × Nat × (Nat → Nat) × Bool) : Prop := W.1 ≤ 800 ∧ (∀ u, u < W.1 → yRV tt B kd (W.2.1 u)) ∧ (∀ s s', s < W.1 → s' < W.1 → (∀ k, k < 34 → W.2.1 s k = W.2.1 s' k) → s = s')
theorem yWV_k {tt s : Nat} {B kd : Nat → Nat} {x2 : Int32} {W : Nat × (Nat → Nat → Int32) × (Nat → Int32) × (Nat → Int32) × (Nat → Int32) × Nat × (Nat → Nat) × Bool} {X : Nat → Int32} (h : yWV tt B kd W) (hX : yRV tt B kd X) : yWV tt B kd (ykp s x2 W X) := by
  obtain ⟨h1, h2, h3⟩ := h
  have gg := ykp_g (s := s) (x2 := x2) (W := W) (X := X)
  refine ⟨gg.2.2.2.2.2.2 h1, fun u hu => ?_, ?_⟩
  · rcases gg.2.2.2.2.1 u hu with e | e
    · rw [gg.2.2.2.1 u e]
      exact h2 u e
    · rw [e]
      exact hX
  · rcases yfd_c (R := W.2.1) (X := X) W.1 with ⟨u, g1, g2, g3⟩ | ⟨g1, g2⟩
    · rw [ykp_s g1]
      exact h3
    · by_cases h8 : W.1 = 800
      · rw [ykp_f g1 h8]
        exact h3
      · rw [ykp_n g1 h8]
        intro a b ha hb he
        have ha : a < W.1 + 1 := ha
        have hb : b < W.1 + 1 := hb
        have he : ∀ k, k < 34 → yRu W.2.1 W.1 X a k = yRu W.2.1 W.1 X b k := he
        by_cases ea : a = W.1
        · by_cases eb : b = W.1
          · omega
          · rw [ea, yRu_e, yRu_n eb] at he
            exact absurd (fun k hk => (he k hk).symm) (g2 b (by omega))
        · by_cases eb : b = W.1
          · rw [eb, yRu_e, yRu_n ea] at he
            exact absurd he (g2 a (by omega))
          · rw [yRu_n ea, yRu_n eb] at he
            exact h3 a b (by omega) (by omega) he
theorem yWV_f {tt s : Nat} {B kd : Nat → Nat} {x2 : Int32} : ∀ {l : List (Nat → Int32)} {W : Nat × (Nat → Nat → Int32) × (Nat → Int32) × (Nat → Int32) × (Nat → Int32) × Nat × (Nat → Nat) × Bool}, yWV tt B kd W → (∀ X, X ∈ l → yRV tt B kd X) → yWV tt B kd (l.foldl (ykp s x2) W) := by
  intro l
  induction l with
  | nil => intro W h _; exact h
  | cons X l ih => intro W h hX; exact ih (yWV_k h (hX X List.mem_cons_self)) (fun Y hY => hX Y (List.mem_cons_of_mem _ hY))
/-- what a fold leaves sure -/
theorem ykp_l {s : Nat} {x2 : Int32} : ∀ {l : List (Nat → Int32)} {W : Nat × (Nat → Nat → Int32) × (Nat → Int32) × (Nat → Int32) × (Nat → Int32) × Nat × (Nat → Nat) × Bool}, W.1 ≤ (l.foldl (ykp s x2) W).1 ∧ W.2.2.2.2.2.1 ≤ (l.foldl (ykp s x2) W).2.2.2.2.2.1 ∧ (l.foldl (ykp s x2) W).2.2.2.2.2.1 ≤ W.2.2.2.2.2.1 + l.length ∧ (∀ u, u < W.1 → (l.foldl (ykp s x2) W).2.1 u = W.2.1 u) ∧ (W.2.2.2.2.2.2.2 = true → (l.foldl (ykp s x2) W).2.2.2.2.2.2.2 = true) := by
  intro l
  induction l with
  | nil => intro W; exact ⟨Nat.le_refl _, Nat.le_refl _, Nat.le_refl _, fun _ _ => rfl, fun h => h⟩
  | cons X l ih =>
    intro W
    have gg := ykp_g (s := s) (x2 := x2) (W := W) (X := X)
    obtain ⟨a1, a2, a3, a4, a5⟩ := ih (W := ykp s x2 W X)
    refine ⟨Nat.le_trans gg.1 a1, Nat.le_trans gg.2.1 a2, ?_, fun u hu => ?_, fun h => a5 (gg.2.2.2.2.2.1 h)⟩
    · rw [List.length_cons]
      show (l.foldl (ykp s x2) (ykp s x2 W X)).2.2.2.2.2.1 ≤ _
      omega
    · show (l.foldl (ykp s x2) (ykp s x2 W X)).2.1 u = _
      rw [a4 u (by omega), gg.2.2.2.1 u hu]
end YVA
