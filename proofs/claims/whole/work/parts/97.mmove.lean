/-! explorer: the reference's step, pieces -/
section YMT
variable {F n m p q t V L T : Nat} {v : Nat → Nat}
def yf6 (τ τ' : zs_S) : Prop := (∀ o k, o ≠ 65 → o ≠ 66 → zs_i τ' o k = zs_i τ o k) ∧ ∀ o k, zs_r τ' o k = zs_r τ o k
theorem yf6_r (τ : zs_S) : yf6 τ τ := ⟨fun _ _ _ _ => rfl, fun _ _ => rfl⟩
theorem yf6_t {a b c : zs_S} (h : yf6 a b) (g : yf6 b c) : yf6 a c := ⟨fun o k x y => (g.1 o k x y).trans (h.1 o k x y), fun o k => (g.2 o k).trans (h.2 o k)⟩
theorem yf6_G {τ τ' : zs_S} (h : yf6 τ τ') : yfG τ τ' := ⟨fun o k _ _ w3 w4 => h.1 o k w3 w4, h.2⟩
theorem ymW_F {tt : Nat} {W : Nat × (Nat → Nat → Int32) × (Nat → Int32) × (Nat → Int32) × (Nat → Int32) × Nat × (Nat → Nat) × Bool} {τ τ' : zs_S} (hf : ∀ o k, (o = 1 ∧ (k = 23 ∨ k = 24)) ∨ (58 ≤ o ∧ o ≤ 63 ∧ o ≠ 62) → zs_i τ' o k = zs_i τ o k) (h : ymW τ tt W) : ymW τ' tt W := by
  obtain ⟨⟨a1, a2⟩, a3, a4, a5, a6⟩ := h
  exact ⟨⟨(hf _ _ (by omega)).trans a1, a2⟩, fun s j hs hj => (hf _ _ (by omega)).trans (a3 s j hs hj), fun s hs => ⟨(hf _ _ (by omega)).trans (a4 s hs).1, (hf _ _ (by omega)).trans (a4 s hs).2.1, (hf _ _ (by omega)).trans (a4 s hs).2.2⟩, (hf _ _ (by omega)).trans a5, fun j hj => (hf _ _ (by omega)).trans (a6 j hj)⟩
def yMy (τ : zs_S) (q V L tt S : Nat) (B Tt kd tg : Nat → Nat) (wy : Nat → Nat → Int32) (ex : Nat → List (Nat × Int32)) (W : Nat × (Nat → Nat → Int32) × (Nat → Int32) × (Nat → Int32) × (Nat → Int32) × Nat × (Nat → Nat) × Bool) (C : Nat → Int32) (s t : Nat) (D : Nat → Int32) : Prop := yMx τ tt q W C s t ∧ yPm τ q V L tt S B Tt kd tg wy ex ∧ yXt τ tt D
theorem yMy_F {s t tt S : Nat} {B Tt kd tg : Nat → Nat} {wy : Nat → Nat → Int32} {ex : Nat → List (Nat × Int32)} {W : Nat × (Nat → Nat → Int32) × (Nat → Int32) × (Nat → Int32) × (Nat → Int32) × Nat × (Nat → Nat) × Bool} {C D D' : Nat → Int32} {τ τ' : zs_S} (hq : yQQ q) (hpp : yPp V L tt S B Tt kd tg wy ex) (hf : yf6 τ τ') (hX : yXt τ' tt D') (h : yMy τ q V L tt S B Tt kd tg wy ex W C s t D) : yMy τ' q V L tt S B Tt kd tg wy ex W C s t D' := by
  have hq2 := yQQ_b hq
  obtain ⟨⟨h1, h2, h3, h4, h5⟩, h6, h7⟩ := h
  exact ⟨⟨ymW_F (fun o k w => hf.1 o k (by omega) (by omega)) h1, fun j hj => (hf.1 _ _ (by omega) (by omega)).trans (h2 j hj), (hf.2 _ _).trans h3, (hf.1 _ _ (by omega) (by omega)).trans h4, (hf.1 _ _ (by omega) (by omega)).trans h5⟩, yPm_F hq hpp (fun o k w1 w2 => hf.1 o k (by omega) (by omega)) h6, hX⟩
theorem yMy_w {s t tt S k : Nat} {y : Int32} {B Tt kd tg : Nat → Nat} {wy : Nat → Nat → Int32} {ex : Nat → List (Nat × Int32)} {W : Nat × (Nat → Nat → Int32) × (Nat → Int32) × (Nat → Int32) × (Nat → Int32) × Nat × (Nat → Nat) × Bool} {C D : Nat → Int32} {τ : zs_S} (hq : yQQ q) (hpp : yPp V L tt S B Tt kd tg wy ex) (h : yMy τ q V L tt S B Tt kd tg wy ex W C s t D) (hk : k < 34) (hn : ¬ (12 + tt ≤ k ∧ k < 16)) : yMy (zs_wi τ 65 (ypi k) y) q V L tt S B Tt kd tg wy ex W C s t (yU D k y) ∧ yf6 τ (zs_wi τ 65 (ypi k) y) := by
  have hf : yf6 τ (zs_wi τ 65 (ypi k) y) := ⟨fun o k w1 w2 => yt_in _ _ (by omega), fun _ _ => rfl⟩
  exact ⟨yMy_F hq hpp hf (ym_th h.2.2 hk hn) h, hf⟩
theorem ym_cpg (τ : zs_S) : zq_cp 0 τ 64 0 0 34 34 34 = true := by
  rw [show (34 : Int32) = nI 34 from rfl, show (0 : Int32) = nI 0 from rfl]
  unfold zq_cp
  rw [nI_clamp (by omega), nI_clamp (by omega), decide_eq_true (nI_pos (by omega)), decide_eq_true (nI_pos (by omega)), decide_eq_true (by omega)]
  simp only [Bool.true_and, List.all_eq_true, List.mem_range]
  intro i hi
  rfl
theorem ym_cp0 : (0 : Int32).toNatClampNeg = 0 := by decide
theorem ym_cp34 : (34 : Int32).toNatClampNeg = 34 := by decide
theorem yMy_c {s t tt S : Nat} {B Tt kd tg : Nat → Nat} {wy : Nat → Nat → Int32} {ex : Nat → List (Nat × Int32)} {W : Nat × (Nat → Nat → Int32) × (Nat → Int32) × (Nat → Int32) × (Nat → Int32) × Nat × (Nat → Nat) × Bool} {C D : Nat → Int32} {τ : zs_S} (hq : yQQ q) (hpp : yPp V L tt S B Tt kd tg wy ex) (h1 : yMx τ tt q W C s t) (h2 : yPm τ q V L tt S B Tt kd tg wy ex) : yMy (zs_cp τ 64 65 0 0 34) q V L tt S B Tt kd tg wy ex W C s t C ∧ yf6 τ (zs_cp τ 64 65 0 0 34) := by
  have hf : yf6 τ (zs_cp τ 64 65 0 0 34) := ⟨fun o k w1 w2 => by rw [yt_ic, if_neg w1], fun _ _ => rfl⟩
  have hX : yXt (zs_cp τ 64 65 0 0 34) tt C := by
    intro j hj
    rw [yt_ic, if_pos rfl]
    unfold va_cpy
    rw [if_pos (by omega), show 0 + (j - 0) = j by omega]
    exact h1.2.1 j hj
  have hq2 := yQQ_b hq
  obtain ⟨g1, g2, g3, g4, g5⟩ := h1
  exact ⟨⟨⟨ymW_F (fun o k w => hf.1 o k (by omega) (by omega)) g1, fun j hj => (hf.1 _ _ (by omega) (by omega)).trans (g2 j hj), (hf.2 _ _).trans g3, (hf.1 _ _ (by omega) (by omega)).trans g4, (hf.1 _ _ (by omega) (by omega)).trans g5⟩, yPm_F hq hpp (fun o k w1 w2 => hf.1 o k (by omega) (by omega)) h2, hX⟩, hf⟩
/-- what a step of the reference leaves -/
def yRs (tt q : Nat) (C : Nat → Int32) (s t : Nat) (W W' : Nat × (Nat → Nat → Int32) × (Nat → Int32) × (Nat → Int32) × (Nat → Int32) × Nat × (Nat → Nat) × Bool) (r : Int32) (τ τ' : zs_S) : Prop := zq_z r = true ∧ yfG τ τ' ∧ ((r = 1 ∧ yMx τ' tt q W' C s t ∧ W'.2.2.2.2.2.2.2 = W.2.2.2.2.2.2.2) ∨ (r = 0 ∧ W'.2.2.2.2.2.2.2 = true))
theorem yRs_6 {tt s t : Nat} {C : Nat → Int32} {W W' : Nat × (Nat → Nat → Int32) × (Nat → Int32) × (Nat → Int32) × (Nat → Int32) × Nat × (Nat → Nat) × Bool} {r : Int32} {a b c : zs_S} (h : yf6 a b) (g : yRs tt q C s t W W' r b c) : yRs tt q C s t W W' r a c := ⟨g.1, yfG_t (yf6_G h) g.2.1, g.2.2⟩
theorem ym_fin {s t tt S : Nat} {B Tt kd tg : Nat → Nat} {wy : Nat → Nat → Int32} {ex : Nat → List (Nat × Int32)} {W : Nat × (Nat → Nat → Int32) × (Nat → Int32) × (Nat → Int32) × (Nat → Int32) × Nat × (Nat → Nat) × Bool} {C D : Nat → Int32} {τ : zs_S} (h : yMy τ q V L tt S B Tt kd tg wy ex W C s t D) (hW : yWV tt B kd W) (hD : yRV tt B kd D) (hs : s < W.1) (hK : W.2.2.2.2.2.1 < 3200) (hF : 900 < F) : ∃ (r : Int32) (τ' : zs_S), zf_M_reach F τ = some (r, τ') ∧ yRs tt q C s t W (ykp s (nI t) W D) r τ τ' := by
  obtain ⟨r, τ', e1, e2, e4⟩ := ym_rc (F := F) h.1 h.2.2 hW hD hs hK hF
  refine ⟨r, τ', e1, ?_, e2, e4⟩
  rcases e4 with ⟨e, -⟩ | ⟨e, -⟩
  · rw [e]
    exact yz_1
  · rw [e]
    exact yz_0
theorem ym_gr {s t tt S x w : Nat} {B Tt kd tg : Nat → Nat} {wy : Nat → Nat → Int32} {ex : Nat → List (Nat × Int32)} {W : Nat × (Nat → Nat → Int32) × (Nat → Int32) × (Nat → Int32) × (Nat → Int32) × Nat × (Nat → Nat) × Bool} {C D : Nat → Int32} {τ : zs_S} (hq : yQQ q) (hpp : yPp V L tt S B Tt kd tg wy ex) (h : yMy τ q V L tt S B Tt kd tg wy ex W C s t D) (ht : t < tt) (x1 : B t ≤ x) (x2 : x < B (t + 1)) (hw : w < 3) (hvl : yVl (1100 + kd x) w) (hW : yWV tt B kd W) (hD : yRV tt B kd (yU D (12 + t) (wy x w))) (hs : s < W.1) (hK : W.2.2.2.2.2.1 < 3200) (hF : 900 < F) : ∃ (r : Int32) (τ' : zs_S), (zq_d (zf_M_goOn F (nI x) (nI w) τ) fun σ1 => zq_c (zf_M_reach F σ1) fun r2 σ2 => zq_g (zq_z r2) <| some (r2, σ2)) = some (r, τ') ∧ yRs tt q C s t W (ykp s (nI t) W (yU D (12 + t) (wy x w))) r τ τ' := by
  obtain ⟨τ1, g1, g2, g3, g4⟩ := ym_go (F := F) hq hpp h.2.1 h.1.2.2.1 h.1.2.2.2.2 ht x1 x2 hw hvl h.2.2 (s := s)
  have hf : yf6 τ τ1 := ⟨fun o k w1 w2 => g3 o k w1, g4⟩
  obtain ⟨r, τ2, e1, e2⟩ := ym_fin (F := F) (yMy_F hq hpp hf g2 h) hW hD hs hK hF
  refine ⟨r, τ2, ?_, yRs_6 hf e2⟩
  rw [g1, yq_s, e1, yq_c, e2.1, yq_g]
theorem ym_wrong {s t tt S e : Nat} {B Tt kd tg : Nat → Nat} {wy : Nat → Nat → Int32} {ex : Nat → List (Nat × Int32)} {W : Nat × (Nat → Nat → Int32) × (Nat → Int32) × (Nat → Int32) × (Nat → Int32) × Nat × (Nat → Nat) × Bool} {C D : Nat → Int32} {τ : zs_S} (hq : yQQ q) (hpp : yPp V L tt S B Tt kd tg wy ex) (h : yMy τ q V L tt S B Tt kd tg wy ex W C s t D) (hW : yWV tt B kd W) (hD : yRV tt B kd (yU (yU C 32 (nI e)) 33 (nI t))) (hs : s < W.1) (hK : W.2.2.2.2.2.1 < 3200) (hF : 900 < F) : ∃ (r : Int32) (τ' : zs_S), zf_M_wrong F (nI e) τ = some (r, τ') ∧ yRs tt q C s t W (ykp s (nI t) W (yU (yU C 32 (nI e)) 33 (nI t))) r τ τ' := by
  have h4 : tt ≤ 4 := hpp.1.2.2.2.1
  obtain ⟨a1, a2⟩ := yMy_c (D := D) hq hpp h.1 h.2.1
  obtain ⟨b1, b2⟩ := yMy_w (k := 32) (y := nI e) hq hpp a1 (by decide) (by omega)
  obtain ⟨c1, c2⟩ := yMy_w (k := 33) (y := nI t) hq hpp b1 (by decide) (by omega)
  have hf : yf6 τ _ := yf6_t a2 (yf6_t b2 c2)
  obtain ⟨r, τ2, e1, e2⟩ := ym_fin (F := F) c1 hW hD hs hK hF
  refine ⟨r, τ2, ?_, yRs_6 hf e2⟩
  have h29 := b1.1.2.2.2.2
  rw [show ypi 32 = 32 from rfl] at e1 h29
  rw [show ypi 33 = 33 from rfl] at e1
  unfold zf_M_wrong
  rw [ym_cpg, yq_g, ym_cp0, ym_cp34, yq_v, show zq_b 32 34 = true from by decide, yq_g, show (32 : Int32).toNatClampNeg = 32 from by decide, yq_v, show zq_b 33 34 = true from by decide, yq_g, show (33 : Int32).toNatClampNeg = 33 from by decide, h29, yq_v, e1, yq_c, e2.1, yq_g]
theorem ysp_l {t : Nat} : ∀ l : List (Nat × Int32), l.length ≤ (l.flatMap (ysp t)).length := by
  intro l
  induction l with
  | nil => exact Nat.le_refl _
  | cons g l ih =>
    rw [List.flatMap_cons, List.length_append, List.length_cons]
    have : 1 ≤ (ysp t g).length := by
      unfold ysp
      by_cases h1 : g.1 = 1003
      · rw [if_pos h1]
        exact Nat.le_succ _
      · rw [if_neg h1]
        by_cases h2 : g.1 = 1002
        · rw [if_pos h2]
          by_cases h3 : g.2 < 8
          · rw [if_pos h3]
            exact Nat.le_succ _
          · rw [if_neg h3]
            exact Nat.le_succ _
        · rw [if_neg h2]
          exact Nat.le_refl _
    omega
theorem ym_rk {s t tt S x : Nat} {B Tt kd tg : Nat → Nat} {wy : Nat → Nat → Int32} {ex : Nat → List (Nat × Int32)} {W : Nat × (Nat → Nat → Int32) × (Nat → Int32) × (Nat → Int32) × (Nat → Int32) × Nat × (Nat → Nat) × Bool} {C D : Nat → Int32} {τ : zs_S} (hq : yQQ q) (hpp : yPp V L tt S B Tt kd tg wy ex) (h : yMy τ q V L tt S B Tt kd tg wy ex W C s t D) (ht : t < tt) (x1 : B t ≤ x) (x2 : x < B (t + 1)) (hk : kd x = 0 ∨ (6 ≤ kd x ∧ kd x ≤ 8)) (hF : 7000 < F) : ∃ τ', zf_M_reckon F (nI t) (zs_i τ (q + 12) x) τ = some (yval C (ex x), τ') ∧ yMy τ' q V L tt S B Tt kd tg wy ex W C s t D ∧ yf6 τ τ' := by
  have h4 : tt ≤ 4 := hpp.1.2.2.2.1
  obtain ⟨-, -, -, -, q5⟩ := hpp.2.2.2 t x ht x1 x2
  obtain ⟨q6, q7⟩ := q5 hk
  obtain ⟨-, -, -, -, r5⟩ := h.2.1.2.2 t x ht x1 x2
  obtain ⟨e, e', d1, d2, d3⟩ := r5 hk
  have hle := yRw_le d3
  have hll := ysp_l (t := t) (ex x)
  rw [List.length_append] at hle
  obtain ⟨τ', e1, e2, e3, e4⟩ := ym_rec (F := F) (tt := tt) (C := C) (V := V) (t := t) (T := Tt t) hq ⟨hpp.1.1, by omega, hpp.2.2.1 t ht⟩ d2 (ex x) e F τ [] d3 q7 (by show 0 ≤ 150; omega) trivial q6 h.1.2.1 h.1.2.2.1 (by omega)
  have hf : yf6 τ τ' := ⟨fun o k w1 w2 => e2 o k w2, e3⟩
  refine ⟨τ', ?_, yMy_F hq hpp hf (fun j hj => (e2 _ _ (by omega)).trans (h.2.2 j hj)) h, hf⟩
  unfold zf_M_reckon
  rw [d1]
  exact e1
end YMT
