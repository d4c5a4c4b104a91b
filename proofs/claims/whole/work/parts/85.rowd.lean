/-! explorer: rows of both sides, the program as functions -/
section YXE
variable {F n m p q t V L T : Nat} {v : Nat → Nat}
/-- the reference's place of a cell of the class's row, and back -/
def ypi (k : Nat) : Nat := if k < 12 then k else if k < 16 then 12 + 5 * (k - 12) + 3 else if k < 20 then 12 + 5 * (k - 16) + 4 else if k < 32 then 12 + 5 * ((k - 20) / 3) + (k - 20) % 3 else k
def yrh (j : Nat) : Nat := if j < 12 then j else if j < 32 then (if (j - 12) % 5 < 3 then 20 + 3 * ((j - 12) / 5) + (j - 12) % 5 else if (j - 12) % 5 = 3 then 12 + (j - 12) / 5 else 16 + (j - 12) / 5) else j
theorem yrh_f : ∀ j, j < 34 → yrh j < 34 ∧ ypi (yrh j) = j := by decide +kernel
theorem ypi_f : ∀ k, k < 34 → ypi k < 34 ∧ yrh (ypi k) = k := by decide +kernel
/-- the reference's row -/
def yD (tt : Nat) (C : Nat → Int32) (j : Nat) : Int32 := if 12 + tt ≤ yrh j ∧ yrh j < 16 then -1 else C (yrh j)
def yU (C : Nat → Int32) (k : Nat) (x : Int32) (j : Nat) : Int32 := if j = k then x else C j
theorem yU_e (C : Nat → Int32) (k : Nat) (x : Int32) : yU C k x k = x := if_pos rfl
theorem yU_n {C : Nat → Int32} {k j : Nat} {x : Int32} (h : j ≠ k) : yU C k x j = C j := if_neg h
theorem yD_p {tt k : Nat} {C : Nat → Int32} (hk : k < 34) (h : ¬ (12 + tt ≤ k ∧ k < 16)) : yD tt C (ypi k) = C k := by
  unfold yD
  rw [(ypi_f k hk).2, if_neg h]
theorem yD_v {tt k : Nat} {C : Nat → Int32} (hk : k < 12) : yD tt C k = C k := by
  have := yD_p (tt := tt) (C := C) (show k < 34 by omega) (by omega)
  rwa [show ypi k = k from if_pos hk] at this
theorem yD_e {tt k : Nat} {C : Nat → Int32} (hk : k = 32 ∨ k = 33) : yD tt C k = C k := by
  rcases hk with rfl | rfl
  · exact yD_p (k := 32) (by decide) (by omega)
  · exact yD_p (k := 33) (by decide) (by omega)
theorem ypi_pl : ∀ t, t < 4 → ypi (12 + t) = 12 + 5 * t + 3 ∧ ypi (16 + t) = 12 + 5 * t + 4 := by decide
theorem ypi_lo : ∀ t, t < 4 → ∀ x, x < 3 → ypi (20 + 3 * t + x) = 12 + 5 * t + x := by decide
theorem yD_pl {tt t : Nat} {C : Nat → Int32} (h : t < tt) (h4 : tt ≤ 4) : yD tt C (12 + 5 * t + 3) = C (12 + t) := by
  rw [← (ypi_pl t (by omega)).1]
  exact yD_p (by omega) (by omega)
theorem yD_md {tt t : Nat} {C : Nat → Int32} (h : t < 4) : yD tt C (12 + 5 * t + 4) = C (16 + t) := by
  rw [← (ypi_pl t (by omega)).2]
  exact yD_p (by omega) (by omega)
theorem yD_lo {tt t x : Nat} {C : Nat → Int32} (h : t < 4) (hx : x < 3) : yD tt C (12 + 5 * t + x) = C (20 + 3 * t + x) := by
  rw [← ypi_lo t h x hx]
  exact yD_p (by omega) (by omega)
theorem yD_u {tt k j : Nat} {C : Nat → Int32} {x : Int32} (hk : k < 34) (hj : j < 34) (h : ¬ (12 + tt ≤ k ∧ k < 16)) : yD tt (yU C k x) j = if j = ypi k then x else yD tt C j := by
  by_cases e : j = ypi k
  · rw [if_pos e, e, yD_p hk h, yU_e]
  · rw [if_neg e]
    unfold yD
    have : yrh j ≠ k := fun e2 => e (by rw [← e2, (yrh_f j hj).2])
    rw [yU_n this]
/-- rows are alike on one side just when they are on the other -/
theorem yD_eq {tt : Nat} {C C' : Nat → Int32} (h : ∀ t, tt ≤ t → t < 4 → C (12 + t) = 0 ∧ C' (12 + t) = 0) : (∀ j, j < 34 → yD tt C j = yD tt C' j) ↔ (∀ k, k < 34 → C k = C' k) := by
  constructor
  · intro e k hk
    by_cases hu : 12 + tt ≤ k ∧ k < 16
    · have := h (k - 12) (by omega) (by omega)
      rw [show 12 + (k - 12) = k by omega] at this
      rw [this.1, this.2]
    · have := e (ypi k) (ypi_f k hk).1
      rwa [yD_p hk hu, yD_p hk hu] at this
  · intro e j hj
    unfold yD
    by_cases hu : 12 + tt ≤ yrh j ∧ yrh j < 16
    · rw [if_pos hu, if_pos hu]
    · rw [if_neg hu, if_neg hu]
      exact e _ (yrh_f j hj).1
/-- a program as functions: what holds of them -/
def yPp (V L tt S : Nat) (B Tt kd tg : Nat → Nat) (wy : Nat → Nat → Int32) (ex : Nat → List (Nat × Int32)) : Prop := (V ≤ 8 ∧ L ≤ 4 ∧ 1 ≤ tt ∧ tt ≤ 4 ∧ S ≤ 50) ∧ (B 0 = 0 ∧ B tt = S ∧ (∀ t, t < tt → B t ≤ B (t + 1)) ∧ ∀ t, t ≤ tt → B t ≤ S) ∧ (∀ t, t < tt → Tt t ≤ 3) ∧ (∀ t x, t < tt → B t ≤ x → x < B (t + 1) → kd x ≤ 9 ∧ (kd x = 0 → (tg x < V ∨ (20 + 3 * t ≤ tg x ∧ tg x < 20 + 3 * t + Tt t))) ∧ ((1 ≤ kd x ∧ kd x ≤ 5) → (8 ≤ tg x ∧ tg x < 8 + L)) ∧ (∀ w, w < 3 → yVl (1100 + kd x) w → (wy x w = -1 ∨ ∃ y, B t ≤ y ∧ y < B (t + 1) ∧ wy x w = nI y)) ∧ ((kd x = 0 ∨ (6 ≤ kd x ∧ kd x ≤ 8)) → (∀ g, g ∈ ex x → yEl t V (Tt t) g) ∧ yok (ex x) 0 1))
/-- .. in the class -/
def yPc (σ : zs_S) (p V L tt S : Nat) (B Tt kd tg : Nat → Nat) (wy : Nat → Nat → Int32) (ex : Nat → List (Nat × Int32)) : Prop := (zs_i σ p 0 = nI V ∧ zs_i σ p 1 = nI L ∧ zs_i σ p 2 = nI tt ∧ zs_i σ p 3 = nI S) ∧ (∀ t, t < tt → zs_i σ (p + 2) t = nI (Tt t)) ∧ (∀ t x, t < tt → B t ≤ x → x < B (t + 1) → zs_r σ (p + 5 + x) 0 = 1100 + kd x ∧ (kd x ≤ 5 → zs_i σ (p + 5 + x) 2 = nI (tg x)) ∧ (∀ w, w < 3 → yVl (1100 + kd x) w → zs_i σ (p + 5 + x) (ywc w) = wy x w) ∧ ((kd x = 0 ∨ (6 ≤ kd x ∧ kd x ≤ 8)) → ∃ c c', zs_i σ (p + 5 + x) 3 = nI c ∧ zs_i σ (p + 5 + x) 4 = nI c' ∧ c' ≤ 1600 ∧ yCl σ p (ex x) c c') ∧ zs_i σ (p + 5 + x) 8 = (if kd x = 0 then yu1 ((ex x).foldl yu1 0) (1002, nI (tg x)) else if 6 ≤ kd x ∧ kd x ≤ 8 then (ex x).foldl yu1 0 else 0))
/-- .. in the reference -/
def yPm (τ : zs_S) (q V L tt S : Nat) (B Tt kd tg : Nat → Nat) (wy : Nat → Nat → Int32) (ex : Nat → List (Nat × Int32)) : Prop := (zs_i τ (q + 1) 2 = nI V ∧ zs_i τ (q + 4) 2 = nI L ∧ zs_i τ q 5 = nI tt ∧ zs_i τ q 6 = nI S) ∧ (∀ t, t < tt → zs_i τ (q + 15 + 3 * t) 2 = nI (Tt t)) ∧ (∀ t x, t < tt → B t ≤ x → x < B (t + 1) → zs_i τ (q + 10) x = nI (kd x) ∧ (kd x = 0 → zs_i τ (q + 11) x = if tg x < 8 then nI (tg x) else nI (8 + (tg x - (20 + 3 * t)))) ∧ ((1 ≤ kd x ∧ kd x ≤ 5) → zs_i τ (q + 11) x = nI (tg x - 8)) ∧ (∀ w, w < 3 → yVl (1100 + kd x) w → zs_i τ (q + 13) (3 * x + w) = wy x w) ∧ ((kd x = 0 ∨ (6 ≤ kd x ∧ kd x ≤ 8)) → ∃ e e', zs_i τ (q + 12) x = nI e ∧ e' ≤ 6400 ∧ yRw τ q ((ex x).flatMap (ysp t) ++ [16]) e e'))
/-- the first values and entries -/
def yPe (σ τ : zs_S) (p q V tt : Nat) (B : Nat → Nat) : Prop := (∀ x, x < V → zs_i σ (p + 1) x = zs_i τ (q + 8) x ∧ yb8 (zs_i τ (q + 8) x)) ∧ (∀ t, t < tt → zs_i σ (p + 3) t = zs_i τ (q + 9) t ∧ (zs_i τ (q + 9) t = -1 ∨ ∃ y, B t ≤ y ∧ y < B (t + 1) ∧ zs_i τ (q + 9) t = nI y))
theorem yPQ_v {tt S c e : Nat} {B Tt : Nat → Nat} {σ τ : zs_S} (h : yPQ σ τ p q V L tt S c e B Tt) : ∃ kd tg wy ex, yPp V L tt S B Tt kd tg wy ex ∧ yPc σ p V L tt S B Tt kd tg wy ex ∧ yPm τ q V L tt S B Tt kd tg wy ex ∧ yPe σ τ p q V tt B := by
  obtain ⟨h1, ⟨c0, c1, c2, c3⟩, ⟨m0, m1, m2, m3⟩, hv, ⟨b0, b1, b2⟩, ht⟩ := h
  have hbs : ∀ t, t ≤ tt → B t ≤ S := by
    have : ∀ d t, tt - t ≤ d → t ≤ tt → B t ≤ B tt := by
      intro d
      induction d with
      | zero => intro t h3 h4; rw [show t = tt by omega]; exact Nat.le_refl _
      | succ d ih =>
        intro t h3 h4
        by_cases h5 : t = tt
        · rw [h5]; exact Nat.le_refl _
        · exact Nat.le_trans (b2 t (by omega)) (ih (t + 1) (by omega) (by omega))
    intro t htt
    rw [← b1]
    exact this _ t (Nat.le_refl _) htt
  -- the expressions
  have hex : ∀ x, ∃ l, ∀ t, t < tt → B t ≤ x → x < B (t + 1) → (zs_r σ (p + 5 + x) 0 = 1100 ∨ (1106 ≤ zs_r σ (p + 5 + x) 0 ∧ zs_r σ (p + 5 + x) 0 ≤ 1108)) → ∃ c0 c' e0 e', yEx σ τ p q t V (Tt t) x c0 c' e0 e' l ∧ zs_i σ (p + 5 + x) 8 = (if zs_r σ (p + 5 + x) 0 = 1100 then yu1 (l.foldl yu1 0) (1002, zs_i σ (p + 5 + x) 2) else l.foldl yu1 0) := by
    intro x
    by_cases hx : ∃ t, t < tt ∧ B t ≤ x ∧ x < B (t + 1) ∧ (zs_r σ (p + 5 + x) 0 = 1100 ∨ (1106 ≤ zs_r σ (p + 5 + x) 0 ∧ zs_r σ (p + 5 + x) 0 ≤ 1108))
    · obtain ⟨t0, t1, t2, t3, t4⟩ := hx
      obtain ⟨-, -, -, -, -, hrow⟩ := ht t0 t1
      obtain ⟨⟨k, k1, k2, k3, k4, k5, k6, k7⟩, -⟩ := hrow x t2 t3
      have uni : ∀ t, t < tt → B t ≤ x → x < B (t + 1) → t = t0 := by
        have mono : ∀ d a, a + d ≤ tt → B a ≤ B (a + d) := by
          intro d
          induction d with
          | zero => intro a _; exact Nat.le_refl _
          | succ d ih => intro a ha; exact Nat.le_trans (ih a (by omega)) (b2 (a + d) (by omega))
        intro t ta tb tc
        by_cases hlt : t < t0
        · have := mono (t0 - (t + 1)) (t + 1) (by omega)
          rw [show t + 1 + (t0 - (t + 1)) = t0 by omega] at this
          omega
        · by_cases hgt : t0 < t
          · have := mono (t - (t0 + 1)) (t0 + 1) (by omega)
            rw [show t0 + 1 + (t - (t0 + 1)) = t by omega] at this
            omega
          · omega
      by_cases hk0 : k = 0
      · obtain ⟨d, d1, d2, c0, c', e0, e', l, d3, d4, d5, d6⟩ := k4 hk0
        refine ⟨l, fun t ta tb tc _ => ?_⟩
        rw [uni t ta tb tc]
        refine ⟨c0, c', e0, e', d5, ?_⟩
        rw [if_pos (by omega), d6, d1]
      · have hk6 : 6 ≤ k ∧ k ≤ 8 := by
          clear k4 k5 k6 k7
          omega
        obtain ⟨c0, c', e0, e', l, d3, d4, d5, d6⟩ := k6 hk6
        refine ⟨l, fun t ta tb tc _ => ?_⟩
        rw [uni t ta tb tc]
        refine ⟨c0, c', e0, e', d5, ?_⟩
        rw [if_neg (by omega), d6]
    · exact ⟨[], fun t ta tb tc td => absurd ⟨t, ta, tb, tc, td⟩ hx⟩
  obtain ⟨ex, hex⟩ := Classical.axiomOfChoice hex
  refine ⟨fun x => zs_r σ (p + 5 + x) 0 - 1100, fun x => (zs_i σ (p + 5 + x) 2).toNatClampNeg, fun x w => zs_i τ (q + 13) (3 * x + w), ex, ⟨h1, ⟨b0, b1, b2, hbs⟩, fun t htt => (ht t htt).1, fun t x t1 t2 t3 => ?_⟩, ⟨⟨c0, c1, c2, c3⟩, fun t htt => (ht t htt).2.1, fun t x t1 t2 t3 => ?_⟩, ⟨⟨m0, m1, m2, m3⟩, fun t htt => (ht t htt).2.2.1, fun t x t1 t2 t3 => ?_⟩, ⟨hv, fun t htt => ?_⟩⟩
  · obtain ⟨hT3, -, -, -, -, hrow⟩ := ht t t1
    obtain ⟨⟨k, k1, k2, k3, k4, k5, k6, k7⟩, hw⟩ := hrow x t2 t3
    have hk : zs_r σ (p + 5 + x) 0 - 1100 = k := by omega
    simp only [hk]
    refine ⟨k1, fun h0 => ?_, fun h15 => ?_, fun w hw3 vl => ?_, fun hh => ?_⟩
    · obtain ⟨d, d1, d2, -⟩ := k4 h0
      rw [d1]
      rcases d2 with ⟨d2, -⟩ | ⟨y, d2, d3, -⟩
      · rw [nI_clamp (by omega)]
        exact Or.inl d2
      · rw [nI_clamp (by omega)]
        exact Or.inr (by omega)
    · obtain ⟨y, y1, y2, -⟩ := k5 h15
      rw [y2, nI_clamp (by omega)]
      omega
    · exact (hw w hw3 (by rw [k2]; exact vl)).2
    · obtain ⟨c0', c', e0, e', d1, -⟩ := hex x t t1 t2 t3 (by omega)
      exact ⟨d1.2.2.2.1, d1.2.2.2.2⟩
  · obtain ⟨hT3, -, -, -, -, hrow⟩ := ht t t1
    obtain ⟨⟨k, k1, k2, k3, k4, k5, k6, k7⟩, hw⟩ := hrow x t2 t3
    have hk : zs_r σ (p + 5 + x) 0 - 1100 = k := by omega
    have htg : k ≤ 5 → zs_i σ (p + 5 + x) 2 = nI (zs_i σ (p + 5 + x) 2).toNatClampNeg := by
      intro h5
      by_cases h0 : k = 0
      · obtain ⟨d, d1, d2, -⟩ := k4 h0
        rw [d1]
        rcases d2 with ⟨d2, -⟩ | ⟨y, d2, d3, -⟩
        · rw [nI_clamp (by omega)]
        · have : t < 4 := by omega
          rw [nI_clamp (by omega)]
      · obtain ⟨y, y1, y2, -⟩ := k5 (by omega)
        rw [y2, nI_clamp (by omega)]
    simp only [hk]
    refine ⟨k2, htg, fun w hw3 vl => (hw w hw3 (by rw [k2]; exact vl)).1, fun hh => ?_, ?_⟩
    · obtain ⟨c0', c', e0, e', ⟨⟨d1, d2, d3, d4, d5⟩, d6, d7, d8, d9⟩, -⟩ := hex x t t1 t2 t3 (by omega)
      exact ⟨c0', c', d1, d2, d4, d6⟩
    · by_cases h0 : k = 0
      · obtain ⟨c0', c', e0, e', -, d10⟩ := hex x t t1 t2 t3 (by omega)
        rw [if_pos h0, d10, if_pos (by omega), ← htg (by omega)]
      · rw [if_neg h0]
        by_cases h6 : 6 ≤ k ∧ k ≤ 8
        · obtain ⟨c0', c', e0, e', -, d10⟩ := hex x t t1 t2 t3 (by omega)
          rw [if_pos h6, d10, if_neg (by omega)]
        · rw [if_neg h6]
          by_cases h9 : k = 9
          · exact k7 h9
          · obtain ⟨y, y1, y2, y3, y4⟩ := k5 (by omega)
            exact y4
  · obtain ⟨hT3, -, -, -, -, hrow⟩ := ht t t1
    obtain ⟨⟨k, k1, k2, k3, k4, k5, k6, k7⟩, hw⟩ := hrow x t2 t3
    have hk : zs_r σ (p + 5 + x) 0 - 1100 = k := by omega
    simp only [hk]
    refine ⟨k3, fun h0 => ?_, fun h15 => ?_, fun w hw3 vl => trivial, fun hh => ?_⟩
    · obtain ⟨d, d1, d2, -⟩ := k4 h0
      rw [d1]
      rcases d2 with ⟨d2, d3⟩ | ⟨y, d2, d3, d4⟩
      · rw [nI_clamp (by omega), if_pos (by omega), d3]
      · rw [nI_clamp (by omega), if_neg (by omega), d4, d3, show 20 + 3 * t + y - (20 + 3 * t) = y by omega]
    · obtain ⟨y, y1, y2, y3, -⟩ := k5 h15
      rw [y2, nI_clamp (by omega), y3, show 8 + y - 8 = y by omega]
    · obtain ⟨c0', c', e0, e', ⟨⟨d1, d2, d3, d4, d5⟩, d6, d7, d8, d9⟩, -⟩ := hex x t t1 t2 t3 (by omega)
      exact ⟨e0, e', d3, d5, d7⟩
  · obtain ⟨-, -, -, e1, e2, -⟩ := ht t htt
    refine ⟨e1, ?_⟩
    rw [← e1]
    rcases e2 with ⟨-, e2⟩ | ⟨e2, e3⟩
    · exact Or.inl e2
    · exact Or.inr ⟨B t, Nat.le_refl _, e2, e3⟩
end YXE
