/-! explorer: how many steps; the loops over threads -/
section YLP
variable {F n m p q t V L T : Nat} {v : Nat → Nat}
/-- which thread's step a thread w counts for -/
def ygw (tg : Nat → Nat) (C : Nat → Int32) (w : Nat) : Nat := if C (16 + w) = 1 then (if C (tg (ypl C w)) = -1 then 99 else (C (tg (ypl C w))).toNatClampNeg) else w
def ycn (g : Nat → Nat) (t : Nat) : Nat → Nat → Nat
  | _, 0 => 0
  | j, d + 1 => (if g j < t then 1 else 0) + ycn g t (j + 1) d
def yce (g : Nat → Nat) (t : Nat) : Nat → Nat → Nat
  | _, 0 => 0
  | j, d + 1 => (if g j = t then 1 else 0) + yce g t (j + 1) d
theorem ycn_s {g : Nat → Nat} {t : Nat} : ∀ d j, ycn g (t + 1) j d = ycn g t j d + yce g t j d := by
  intro d
  induction d with
  | zero => intro j; rfl
  | succ d ih =>
    intro j
    show (if g j < t + 1 then 1 else 0) + ycn g (t + 1) (j + 1) d = (if g j < t then 1 else 0) + ycn g t (j + 1) d + ((if g j = t then 1 else 0) + yce g t (j + 1) d)
    rw [ih (j + 1)]
    by_cases h1 : g j < t
    · rw [if_pos (by omega), if_pos h1, if_neg (by omega)]
      omega
    · by_cases h2 : g j = t
      · rw [if_pos (by omega), if_neg h1, if_pos h2]
        omega
      · rw [if_neg (by omega), if_neg h1, if_neg h2]
        omega
theorem ycn_le {g : Nat → Nat} {t : Nat} : ∀ d j, ycn g t j d ≤ d := by
  intro d
  induction d with
  | zero => intro j; exact Nat.le_refl _
  | succ d ih =>
    intro j
    show (if g j < t then 1 else 0) + ycn g t (j + 1) d ≤ d + 1
    have := ih (j + 1)
    by_cases h1 : g j < t
    · rw [if_pos h1]
      omega
    · rw [if_neg h1]
      omega
theorem ycn_z {g : Nat → Nat} : ∀ d j, ycn g 0 j d = 0 := by
  intro d
  induction d with
  | zero => intro j; rfl
  | succ d ih =>
    intro j
    show (if g j < 0 then 1 else 0) + ycn g 0 (j + 1) d = 0
    rw [ih (j + 1), if_neg (by omega)]
theorem yce_1 {g : Nat → Nat} {t : Nat} (hg : g t = t) : ∀ d j, j ≤ t → t < j + d → 1 ≤ yce g t j d := by
  intro d
  induction d with
  | zero => intro j h1 h2; omega
  | succ d ih =>
    intro j h1 h2
    show 1 ≤ (if g j = t then 1 else 0) + yce g t (j + 1) d
    by_cases e : j = t
    · rw [if_pos (by rw [e]; exact hg)]
      omega
    · have := ih (j + 1) (by omega) (by omega)
      omega
theorem yce_l {g tg : Nat → Nat} {C : Nat → Int32} {t c : Nat} (hg : g t = t) (hw : ∀ w, yw1 tg C c w = true → g w = t ∧ w ≠ t) : ∀ d j, (ywf tg C c j d).length + (if j ≤ t ∧ t < j + d then 1 else 0) ≤ yce g t j d := by
  intro d
  induction d with
  | zero =>
    intro j
    rw [if_neg (by omega)]
    exact Nat.le_refl _
  | succ d ih =>
    intro j
    show (if yw1 tg C c j = true then j :: ywf tg C c (j + 1) d else ywf tg C c (j + 1) d).length + _ ≤ (if g j = t then 1 else 0) + yce g t (j + 1) d
    have h1 := ih (j + 1)
    by_cases e : yw1 tg C c j = true
    · obtain ⟨w1, w2⟩ := hw j e
      rw [if_pos e, if_pos w1, List.length_cons]
      by_cases h2 : j ≤ t ∧ t < j + (d + 1)
      · rw [if_pos h2]
        rw [if_pos (by omega)] at h1
        omega
      · rw [if_neg h2]
        rw [if_neg (by omega)] at h1
        omega
    · rw [if_neg e]
      by_cases ej : j = t
      · rw [if_pos (show j ≤ t ∧ t < j + (d + 1) by omega), if_pos (show g j = t by rw [ej]; exact hg)]
        rw [if_neg (by omega)] at h1
        omega
      · by_cases h2 : j ≤ t ∧ t < j + (d + 1)
        · rw [if_pos h2]
          rw [if_pos (by omega)] at h1
          omega
        · rw [if_neg h2]
          rw [if_neg (by omega)] at h1
          omega
theorem ysu_l {tt t : Nat} {kd tg : Nat → Nat} {wy : Nat → Nat → Int32} {ex : Nat → List (Nat × Int32)} {C : Nat → Int32} : (ysu tt kd tg wy ex C t).length ≤ 1 ∨ (kd (ypl C t) = 4 ∧ C (tg (ypl C t)) = nI t ∧ (ysu tt kd tg wy ex C t).length ≤ (ywf tg C (tg (ypl C t)) 0 tt).length + 1) := by
  have l1 : ∀ X : Nat → Int32, [X].length ≤ 1 := fun X => Nat.le_refl _
  unfold ysu
  by_cases m2 : C (16 + t) = 2
  · rw [if_pos m2]
    exact Or.inl (l1 _)
  · rw [if_neg m2]
    by_cases hno : (2 ≤ kd (ypl C t) ∧ kd (ypl C t) ≤ 5) ∧ ¬ C (tg (ypl C t)) = nI t
    · rw [if_pos hno]
      exact Or.inl (l1 _)
    · rw [if_neg hno]
      by_cases e4 : kd (ypl C t) = 4
      · refine Or.inr ⟨e4, Classical.byContradiction (fun hn => hno ⟨by omega, hn⟩), ?_⟩
        rw [if_neg (by omega), if_neg (by omega), if_neg (by omega), if_neg (by omega), if_pos e4]
        by_cases hn : ywf tg C (tg (ypl C t)) 0 tt = []
        · rw [if_pos hn]
          exact Nat.le_add_left _ _
        · rw [if_neg hn]
          unfold ywk
          rw [List.length_map]
          exact Nat.le_succ _
      · refine Or.inl ?_
        by_cases e0 : kd (ypl C t) = 0
        · rw [if_pos e0]
          exact l1 _
        · rw [if_neg e0]
          by_cases e1 : kd (ypl C t) = 1
          · rw [if_pos e1]
            exact l1 _
          · rw [if_neg e1]
            by_cases e2 : kd (ypl C t) = 2
            · rw [if_pos e2]
              exact l1 _
            · rw [if_neg e2]
              by_cases e3 : kd (ypl C t) = 3
              · rw [if_pos e3]
                exact l1 _
              · rw [if_neg e3, if_neg e4]
                by_cases e5 : kd (ypl C t) = 5
                · rw [if_pos e5]
                  exact l1 _
                · rw [if_neg e5]
                  by_cases e6 : kd (ypl C t) = 6
                  · rw [if_pos e6]
                    by_cases hz : yval C (ex (ypl C t)) = 0
                    · rw [if_pos hz]
                      exact l1 _
                    · rw [if_neg hz]
                      exact l1 _
                  · rw [if_neg e6]
                    by_cases e9 : kd (ypl C t) = 9
                    · rw [if_pos e9]
                      exact l1 _
                    · rw [if_neg e9]
                      exact l1 _
theorem ycap {tt t : Nat} {kd tg : Nat → Nat} {wy : Nat → Nat → Int32} {ex : Nat → List (Nat × Int32)} {C : Nat → Int32} (ht : t < tt) (h4 : tt ≤ 4) (hrd : yrd kd tg C t) : 1 + ycn (ygw tg C) t 0 tt ≤ 4 ∧ (kd (ypl C t) = 4 → C (tg (ypl C t)) = nI t → ycn (ygw tg C) t 0 tt + (ywf tg C (tg (ypl C t)) 0 tt).length + 1 ≤ 4) ∧ ycn (ygw tg C) t 0 tt + (ysu tt kd tg wy ex C t).length ≤ ycn (ygw tg C) (t + 1) 0 tt := by
  have hg : ygw tg C t = t := if_neg hrd.2.1
  have h1 := yce_1 hg tt 0 (Nat.zero_le _) (by omega)
  have h2 := ycn_s (g := ygw tg C) (t := t) tt 0
  have h3 := ycn_le (g := ygw tg C) (t := t + 1) tt 0
  have hc : kd (ypl C t) = 4 → C (tg (ypl C t)) = nI t → (ywf tg C (tg (ypl C t)) 0 tt).length + 1 ≤ yce (ygw tg C) t 0 tt := by
    intro k1 k2
    have := yce_l (g := ygw tg C) (tg := tg) (C := C) (c := tg (ypl C t)) hg (fun w hw => by
      have hy := yw1_i.mp hw
      refine ⟨?_, fun e => hrd.2.1 (by rw [e] at hy; exact hy.1)⟩
      unfold ygw
      rw [if_pos hy.1, hy.2, k2, if_neg (yn_m1 (by omega)), nI_clamp (by omega)]) tt 0
    rw [if_pos (by omega)] at this
    exact this
  refine ⟨by omega, fun k1 k2 => ?_, ?_⟩
  · have := hc k1 k2
    omega
  · rcases ysu_l (tt := tt) (t := t) (kd := kd) (tg := tg) (wy := wy) (ex := ex) (C := C) with hl | ⟨k1, k2, hl⟩
    · omega
    · have := hc k1 k2
      omega
/-- ready, as a value; all steps of a state -/
def yrb (kd tg : Nat → Nat) (C : Nat → Int32) (t : Nat) : Bool := decide (C 32 = 0) && (!decide (C (12 + t) = -1) && (!decide (C (16 + t) = 1) && ((!decide (C (16 + t) = 2) && !decide (kd (ypl C t) = 1)) || decide (C (tg (ypl C t)) = -1))))
theorem yrb_i {kd tg : Nat → Nat} {C : Nat → Int32} {t : Nat} : yrb kd tg C t = true ↔ (C 32 = 0 ∧ yrd kd tg C t) := by
  unfold yrb yrd
  simp only [Bool.and_eq_true, Bool.or_eq_true, Bool.not_eq_true', decide_eq_true_eq, decide_eq_false_iff_not]
  constructor
  · rintro ⟨h1, h2, h3, h4⟩
    refine ⟨h1, h2, h3, fun h5 => ?_⟩
    rcases h4 with ⟨h6, h7⟩ | h4
    · rcases h5 with h5 | h5
      · exact absurd h5 h6
      · exact absurd h5 h7
    · exact h4
  · rintro ⟨h1, h2, h3, h4⟩
    refine ⟨h1, h2, h3, ?_⟩
    by_cases h6 : C (16 + t) = 2
    · exact Or.inr (h4 (Or.inl h6))
    · by_cases h7 : kd (ypl C t) = 1
      · exact Or.inr (h4 (Or.inr h7))
      · exact Or.inl ⟨h6, h7⟩
def yth (tt : Nat) (kd tg : Nat → Nat) (wy : Nat → Nat → Int32) (ex : Nat → List (Nat × Int32)) (s : Nat) (C : Nat → Int32) : Nat → Nat → Nat × (Nat → Nat → Int32) × (Nat → Int32) × (Nat → Int32) × (Nat → Int32) × Nat × (Nat → Nat) × Bool → Nat × (Nat → Nat → Int32) × (Nat → Int32) × (Nat → Int32) × (Nat → Int32) × Nat × (Nat → Nat) × Bool
  | _, 0, W => W
  | j, d + 1, W => yth tt kd tg wy ex s C (j + 1) d (if yrb kd tg C j = true then (ysu tt kd tg wy ex C j).foldl (ykp s (nI j)) W else W)
theorem yth_e {tt s : Nat} {kd tg : Nat → Nat} {wy : Nat → Nat → Int32} {ex : Nat → List (Nat × Int32)} {C : Nat → Int32} (h : ¬ C 32 = 0) : ∀ d j W, yth tt kd tg wy ex s C j d W = W := by
  intro d
  induction d with
  | zero => intro j W; rfl
  | succ d ih =>
    intro j W
    show yth tt kd tg wy ex s C (j + 1) d (if yrb kd tg C j = true then _ else W) = W
    rw [if_neg (fun hh => h (yrb_i.mp hh).1)]
    exact ih (j + 1) W
/-- one thread's share -/
theorem yth_1 {tt s S j : Nat} {B Tt kd tg : Nat → Nat} {wy : Nat → Nat → Int32} {ex : Nat → List (Nat × Int32)} {C : Nat → Int32} {W : Nat × (Nat → Nat → Int32) × (Nat → Int32) × (Nat → Int32) × (Nat → Int32) × Nat × (Nat → Nat) × Bool} (hpp : yPp V L tt S B Tt kd tg wy ex) (hv : yRV tt B kd C) (hj : j < tt) (hW : yWV tt B kd W) (hK : W.2.2.2.2.2.1 ≤ 4 * s + ycn (ygw tg C) j 0 tt) (hr : yrb kd tg C j = true) : yWV tt B kd ((ysu tt kd tg wy ex C j).foldl (ykp s (nI j)) W) ∧ ((ysu tt kd tg wy ex C j).foldl (ykp s (nI j)) W).2.2.2.2.2.1 ≤ 4 * s + ycn (ygw tg C) (j + 1) 0 tt := by
  have hrd := (yrb_i.mp hr).2
  refine ⟨yWV_f hW (ysu_v hpp hv hj hrd), ?_⟩
  have h1 := (ycap (wy := wy) (ex := ex) hj hpp.1.2.2.2.1 hrd).2.2
  have h2 := (ykp_l (s := s) (x2 := nI j) (l := ysu tt kd tg wy ex C j) (W := W)).2.2.1
  omega
theorem yth_p {tt s S : Nat} {B Tt kd tg : Nat → Nat} {wy : Nat → Nat → Int32} {ex : Nat → List (Nat × Int32)} {C : Nat → Int32} (hpp : yPp V L tt S B Tt kd tg wy ex) (hv : yRV tt B kd C) : ∀ d j W, j + d = tt → yWV tt B kd W → W.2.2.2.2.2.1 ≤ 4 * s + ycn (ygw tg C) j 0 tt → yWV tt B kd (yth tt kd tg wy ex s C j d W) ∧ (yth tt kd tg wy ex s C j d W).2.2.2.2.2.1 ≤ 4 * s + 4 ∧ W.1 ≤ (yth tt kd tg wy ex s C j d W).1 ∧ W.2.2.2.2.2.1 ≤ (yth tt kd tg wy ex s C j d W).2.2.2.2.2.1 ∧ (∀ u, u < W.1 → (yth tt kd tg wy ex s C j d W).2.1 u = W.2.1 u) ∧ (W.2.2.2.2.2.2.2 = true → (yth tt kd tg wy ex s C j d W).2.2.2.2.2.2.2 = true) := by
  have h4 : tt ≤ 4 := hpp.1.2.2.2.1
  intro d
  induction d with
  | zero =>
    intro j W h1 h2 h3
    have := ycn_le (g := ygw tg C) (t := j) tt 0
    exact ⟨h2, by show W.2.2.2.2.2.1 ≤ _; omega, Nat.le_refl _, Nat.le_refl _, fun _ _ => rfl, fun h => h⟩
  | succ d ih =>
    intro j W h1 h2 h3
    have e : yth tt kd tg wy ex s C j (d + 1) W = yth tt kd tg wy ex s C (j + 1) d (if yrb kd tg C j = true then (ysu tt kd tg wy ex C j).foldl (ykp s (nI j)) W else W) := rfl
    rw [e]
    by_cases hr : yrb kd tg C j = true
    · rw [if_pos hr]
      obtain ⟨a1, a2⟩ := yth_1 hpp hv (by omega) h2 h3 hr
      obtain ⟨b1, b2, b3, b4, b5⟩ := ykp_l (s := s) (x2 := nI j) (l := ysu tt kd tg wy ex C j) (W := W)
      obtain ⟨c1, c2, c3, c4, c5, c6⟩ := ih (j + 1) _ (by omega) a1 a2
      exact ⟨c1, c2, Nat.le_trans b1 c3, Nat.le_trans b2 c4, fun u hu => (c5 u (by omega)).trans (b4 u hu), fun h => c6 (b5 h)⟩
    · rw [if_neg hr]
      have := ycn_s (g := ygw tg C) (t := j) tt 0
      exact ih (j + 1) W (by omega) h2 (by omega)
/-- the class's loop over the threads -/
theorem yx_th {s tt S : Nat} {B Tt kd tg : Nat → Nat} {wy : Nat → Nat → Int32} {ex : Nat → List (Nat × Int32)} {C : Nat → Int32} {k27 : Int32 → zs_S → Option (Int32 × zs_S)} (hp : yPP p) (hF : 1700 < F) (hpp : yPp V L tt S B Tt kd tg wy ex) (hv : yRV tt B kd C) (hs8 : s < 800) (h32 : C 32 = 0) : ∀ d j N (W : Nat × (Nat → Nat → Int32) × (Nat → Int32) × (Nat → Int32) × (Nat → Int32) × Nat × (Nat → Nat) × Bool) σ, j + d = tt → d < N → yPc σ p V L tt S B Tt kd tg wy ex → ycW σ W → zs_i σ 16 (s + 1) = nI W.2.2.2.2.2.1 → zs_r σ 138 1 = p → s < W.1 → W.2.1 s = C → yWV tt B kd W → W.2.2.2.2.2.1 ≤ 4 * s + ycn (ygw tg C) j 0 tt → ∃ σ', zf_Explorer_explore_81 F k27 N (nI s) (nI tt) (nI j) σ = (if zs_i σ' 10 11 = 0 then k27 (nI (s + 1)) σ' else some (0, σ')) ∧ ycW σ' (yth tt kd tg wy ex s C j d W) ∧ zs_i σ' 16 (s + 1) = nI (yth tt kd tg wy ex s C j d W).2.2.2.2.2.1 ∧ yfF p s σ σ' := by
  have h4 : tt ≤ 4 := hpp.1.2.2.2.1
  intro d
  induction d with
  | zero =>
    intro j N W σ h1 h2 h3 h5 h6 h7 h8 h9 h10 h11
    obtain ⟨N, rfl⟩ : ∃ q, N = q + 1 := ⟨N - 1, by omega⟩
    have hj : j = tt := by omega
    refine ⟨σ, ?_, h5, h6, yfF_r s σ⟩
    rw [zf_Explorer_explore_81, hj, if_pos (nI_le (Nat.le_refl _) (by omega)), nI_1, yq_v]
  | succ d ih =>
    intro j N W σ h1 h2 h3 h5 h6 h7 h8 h9 h10 h11
    obtain ⟨N, rfl⟩ : ∃ q, N = q + 1 := ⟨N - 1, by omega⟩
    have hjt : j < tt := by omega
    have hvW : yRV tt B kd (W.2.1 s) := by rw [h9]; exact hv
    obtain ⟨b, b1, b2⟩ := yx_ready (F := F) hp hpp h3 h5 h7 h8 hjt hvW
    rw [h9] at b2
    have e : yth tt kd tg wy ex s C j (d + 1) W = yth tt kd tg wy ex s C (j + 1) d (if yrb kd tg C j = true then (ysu tt kd tg wy ex C j).foldl (ykp s (nI j)) W else W) := rfl
    rw [e, zf_Explorer_explore_81, if_neg (nI_ge hjt (by omega)), b1, yq_c]
    unfold zf_Explorer_explore_104
    rcases b2 with ⟨b2, b3⟩ | ⟨b2, b3⟩
    · have hr : yrb kd tg C j = true := yrb_i.mpr ⟨h32, b3⟩
      obtain ⟨a1, a2⟩ := yth_1 hpp hv hjt h10 h11 hr
      obtain ⟨g1, g2, g3, g4, g5⟩ := ykp_l (s := s) (x2 := nI j) (l := ysu tt kd tg wy ex C j) (W := W)
      obtain ⟨k1, k2, -⟩ := ycap (wy := wy) (ex := ex) hjt h4 b3
      obtain ⟨σ1, f1, f2, f3, f4⟩ := yx_take (F := F) hp hF hpp h3 h5 h6 h7 h8 hjt hvW (by rw [h9]; exact b3) (by rw [h9]; exact ⟨by omega, fun m1 m2 => by have := k2 m1 m2; omega⟩)
      rw [h9] at f2 f3
      rw [if_pos hr, if_neg (by rw [b2]; decide), f1, yq_s, nI_1, yq_v]
      obtain ⟨σ', z1, z2, z3, z4⟩ := ih (j + 1) N _ σ1 (by omega) (by omega) (yPc_F hp hpp f4.1 h3) f2 f3 ((f4.1.2.1 _ _).trans h7) (by omega) ((g4 s h8).trans h9) a1 a2
      exact ⟨σ', z1, z2, z3, yfF_t f4 z4⟩
    · have hr : ¬ yrb kd tg C j = true := fun hh => b3 (yrb_i.mp hh).2
      have := ycn_s (g := ygw tg C) (t := j) tt 0
      rw [if_neg hr, if_pos b2, nI_1, yq_v]
      exact ih (j + 1) N W σ (by omega) (by omega) h3 h5 h6 h7 h8 h9 h10 (by omega)
/-- a step more, unless there is no room -/
theorem ykp_p {s : Nat} {x2 : Int32} {W : Nat × (Nat → Nat → Int32) × (Nat → Int32) × (Nat → Int32) × (Nat → Int32) × Nat × (Nat → Nat) × Bool} {X : Nat → Int32} (h : (ykp s x2 W X).2.2.2.2.2.2.2 = false) : W.2.2.2.2.2.1 < (ykp s x2 W X).2.2.2.2.2.1 := by
  rcases yfd_c (R := W.2.1) (X := X) W.1 with ⟨u, h1, -⟩ | ⟨h1, -⟩
  · rw [ykp_s h1]
    exact Nat.lt_succ_self _
  · by_cases h8 : W.1 = 800
    · rw [ykp_f h1 h8] at h
      have h : true = false := h
      exact absurd h (by decide)
    · rw [ykp_n h1 h8]
      exact Nat.lt_succ_self _
theorem ykp_q {s : Nat} {x2 : Int32} {W : Nat × (Nat → Nat → Int32) × (Nat → Int32) × (Nat → Int32) × (Nat → Int32) × Nat × (Nat → Nat) × Bool} {l : List (Nat → Int32)} (hl : l ≠ []) (h : (l.foldl (ykp s x2) W).2.2.2.2.2.2.2 = false) : W.2.2.2.2.2.1 < (l.foldl (ykp s x2) W).2.2.2.2.2.1 := by
  cases l with
  | nil => exact absurd rfl hl
  | cons X l =>
    have h : (l.foldl (ykp s x2) (ykp s x2 W X)).2.2.2.2.2.2.2 = false := h
    show W.2.2.2.2.2.1 < (l.foldl (ykp s x2) (ykp s x2 W X)).2.2.2.2.2.1
    obtain ⟨-, a2, -, -, a5⟩ := ykp_l (s := s) (x2 := x2) (l := l) (W := ykp s x2 W X)
    have hx : (ykp s x2 W X).2.2.2.2.2.2.2 = false := by
      cases hc : (ykp s x2 W X).2.2.2.2.2.2.2 with
      | false => rfl
      | true =>
        rw [a5 hc] at h
        exact absurd h (by decide)
    exact Nat.lt_of_lt_of_le (ykp_p hx) a2
theorem ysu_n {tt t : Nat} {kd tg : Nat → Nat} {wy : Nat → Nat → Int32} {ex : Nat → List (Nat × Int32)} {C : Nat → Int32} : ysu tt kd tg wy ex C t ≠ [] := by
  have l1 : ∀ X : Nat → Int32, [X] ≠ [] := fun X => List.cons_ne_nil _ _
  unfold ysu
  by_cases m2 : C (16 + t) = 2
  · rw [if_pos m2]
    exact l1 _
  · rw [if_neg m2]
    by_cases hno : (2 ≤ kd (ypl C t) ∧ kd (ypl C t) ≤ 5) ∧ ¬ C (tg (ypl C t)) = nI t
    · rw [if_pos hno]
      exact l1 _
    · rw [if_neg hno]
      by_cases e0 : kd (ypl C t) = 0
      · rw [if_pos e0]
        exact l1 _
      · rw [if_neg e0]
        by_cases e1 : kd (ypl C t) = 1
        · rw [if_pos e1]
          exact l1 _
        · rw [if_neg e1]
          by_cases e2 : kd (ypl C t) = 2
          · rw [if_pos e2]
            exact l1 _
          · rw [if_neg e2]
            by_cases e3 : kd (ypl C t) = 3
            · rw [if_pos e3]
              exact l1 _
            · rw [if_neg e3]
              by_cases e4 : kd (ypl C t) = 4
              · rw [if_pos e4]
                by_cases hn : ywf tg C (tg (ypl C t)) 0 tt = []
                · rw [if_pos hn]
                  exact l1 _
                · rw [if_neg hn]
                  unfold ywk
                  exact fun e => hn (List.map_eq_nil_iff.mp e)
              · rw [if_neg e4]
                by_cases e5 : kd (ypl C t) = 5
                · rw [if_pos e5]
                  exact l1 _
                · rw [if_neg e5]
                  by_cases e6 : kd (ypl C t) = 6
                  · rw [if_pos e6]
                    by_cases hz : yval C (ex (ypl C t)) = 0
                    · rw [if_pos hz]
                      exact l1 _
                    · rw [if_neg hz]
                      exact l1 _
                  · rw [if_neg e6]
                    by_cases e9 : kd (ypl C t) = 9
                    · rw [if_pos e9]
                      exact l1 _
                    · rw [if_neg e9]
                      exact l1 _
theorem yth_q {tt s S : Nat} {B Tt kd tg : Nat → Nat} {wy : Nat → Nat → Int32} {ex : Nat → List (Nat × Int32)} {C : Nat → Int32} (hpp : yPp V L tt S B Tt kd tg wy ex) (hv : yRV tt B kd C) : ∀ d j W, j + d = tt → yWV tt B kd W → W.2.2.2.2.2.1 ≤ 4 * s + ycn (ygw tg C) j 0 tt → (yth tt kd tg wy ex s C j d W).2.2.2.2.2.2.2 = false → (W.2.2.2.2.2.1 = (yth tt kd tg wy ex s C j d W).2.2.2.2.2.1 ↔ ∀ t, j ≤ t → t < tt → ¬ yrb kd tg C t = true) := by
  intro d
  induction d with
  | zero =>
    intro j W h1 h2 h3 h5
    exact ⟨fun _ t w1 w2 => by omega, fun _ => rfl⟩
  | succ d ih =>
    intro j W h1 h2 h3 h5
    have e : yth tt kd tg wy ex s C j (d + 1) W = yth tt kd tg wy ex s C (j + 1) d (if yrb kd tg C j = true then (ysu tt kd tg wy ex C j).foldl (ykp s (nI j)) W else W) := rfl
    rw [e] at h5 ⊢
    by_cases hr : yrb kd tg C j = true
    · rw [if_pos hr] at h5 ⊢
      obtain ⟨a1, a2⟩ := yth_1 hpp hv (by omega) h2 h3 hr
      obtain ⟨-, -, -, c4, -, c6⟩ := yth_p (s := s) hpp hv d (j + 1) _ (by omega) a1 a2
      have hx : ((ysu tt kd tg wy ex C j).foldl (ykp s (nI j)) W).2.2.2.2.2.2.2 = false := by
        cases hc : ((ysu tt kd tg wy ex C j).foldl (ykp s (nI j)) W).2.2.2.2.2.2.2 with
        | false => rfl
        | true =>
          rw [c6 hc] at h5
          exact absurd h5 (by decide)
      have hlt := ykp_q ysu_n hx
      exact ⟨fun hh => by omega, fun hh => absurd hr (hh j (Nat.le_refl _) (by omega))⟩
    · rw [if_neg hr] at h5 ⊢
      have := ycn_s (g := ygw tg C) (t := j) tt 0
      refine (ih (j + 1) W (by omega) h2 (by omega) h5).trans ⟨fun hh t w1 w2 => ?_, fun hh t w1 w2 => hh t (by omega) w2⟩
      by_cases ej : t = j
      · rw [ej]
        exact hr
      · exact hh t (by omega) w2
end YLP
