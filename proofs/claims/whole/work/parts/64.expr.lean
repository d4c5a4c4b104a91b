/-! expressions: the relation, the frames, what one more element makes of it -/
section YEA
variable {F n m p q t V L T : Nat} {v : Nat → Nat}
theorem yPP_b {p : Nat} (h : yPP p) : 20 ≤ p ∧ p ≤ 79 := by
  rcases h with rfl | rfl <;> decide
theorem yQQ_b {q : Nat} (h : yQQ q) : 3 ≤ q ∧ q ≤ 30 := by
  rcases h with rfl | rfl <;> decide
def yfC (p c : Nat) (σ σ' : zs_S) : Prop := (∀ o k, ¬ (o = 7 ∧ 5 ≤ k) → ¬ (o = p + 55 ∧ k = 3) → ¬ (o = p + 57 ∧ c ≤ k) → zs_i σ' o k = zs_i σ o k) ∧ (∀ o k, ¬ (o = 7 ∧ k = 6) → ¬ (o = p + 56 ∧ c ≤ k) → zs_r σ' o k = zs_r σ o k) ∧ (∀ o k, zs_l σ' o k = zs_l σ o k)
def yfM (q e : Nat) (τ τ' : zs_S) : Prop := (∀ o k, ¬ (o = 1 ∧ 6 ≤ k ∧ k ≤ 14) → ¬ (o = q ∧ k = 12) → ¬ (o = q + 14 ∧ e ≤ k) → zs_i τ' o k = zs_i τ o k) ∧ (∀ o k, zs_r τ' o k = zs_r τ o k)
theorem yfC_r (p c : Nat) (σ : zs_S) : yfC p c σ σ := ⟨fun _ _ _ _ _ => rfl, fun _ _ _ _ => rfl, fun _ _ => rfl⟩
theorem yfM_r (q e : Nat) (τ : zs_S) : yfM q e τ τ := ⟨fun _ _ _ _ _ => rfl, fun _ _ => rfl⟩
theorem yfC_t {p c c' : Nat} {a b d : zs_S} (h : yfC p c a b) (g : yfC p c' b d) (hc : c ≤ c') : yfC p c a d :=
  ⟨fun o k x y z => (g.1 o k x y (fun w => z ⟨w.1, Nat.le_trans hc w.2⟩)).trans (h.1 o k x y z), fun o k x y => (g.2.1 o k x (fun w => y ⟨w.1, Nat.le_trans hc w.2⟩)).trans (h.2.1 o k x y), fun o k => (g.2.2 o k).trans (h.2.2 o k)⟩
theorem yfM_t {q e e' : Nat} {a b d : zs_S} (h : yfM q e a b) (g : yfM q e' b d) (he : e ≤ e') : yfM q e a d :=
  ⟨fun o k x y z => (g.1 o k x y (fun w => z ⟨w.1, Nat.le_trans he w.2⟩)).trans (h.1 o k x y z), fun o k => (g.2 o k).trans (h.2 o k)⟩
theorem yfM_L {q e : Nat} {a b : zs_S} (h : ym_L a b) : yfM q e a b := ⟨fun o k x _ _ => h.1 o k (fun w => x ⟨w.1, w.2.1, by omega⟩), h.2⟩
def yN (F : Nat) (v : Nat → Nat) (n m p q t V L T i s a c e : Nat) (σ τ : zs_S) : Prop := (yB v n m ∧ yPP p ∧ yQQ q) ∧ yP v n m p i σ ∧ yM F v n m q i τ ∧ (zs_i σ p 3 = nI s ∧ zs_i τ q 6 = nI s ∧ s ≤ 50) ∧ (zs_i σ 7 9 = nI a ∧ zs_i τ 1 14 = nI a ∧ a ≤ 150) ∧ (zs_i σ (p + 55) 3 = nI c ∧ c ≤ i) ∧ (zs_i τ q 12 = nI e ∧ e ≤ 2 * c + s) ∧ yNm σ τ q t V L T
theorem yN_mk {i s a c e i' a' c' e' : Nat} {σ τ σ' τ' : zs_S} (h : yN F v n m p q t V L T i s a c e σ τ) (hf : yfC p c σ σ') (hg : yfM q e τ τ') (hP : yP v n m p i' σ') (hM : yM F v n m q i' τ') (ha : zs_i σ' 7 9 = nI a' ∧ zs_i τ' 1 14 = nI a' ∧ a' ≤ 150) (hc : zs_i σ' (p + 55) 3 = nI c' ∧ c' ≤ i') (he : zs_i τ' q 12 = nI e' ∧ e' ≤ 2 * c' + s) : yN F v n m p q t V L T i' s a' c' e' σ' τ' := by
  obtain ⟨⟨h1, hp, hq⟩, h4, h5, ⟨h6, h7, h8⟩, h9, h10, h11, h12⟩ := h
  have hp2 := yPP_b hp
  have hq2 := yQQ_b hq
  refine ⟨⟨h1, hp, hq⟩, hP, hM, ⟨(hf.1 _ _ (by omega) (by omega) (by omega)).trans h6, (hg.1 _ _ (by omega) (by omega) (by omega)).trans h7, h8⟩, ha, hc, he, ?_⟩
  exact yNm_F h12 (fun k => hf.2.2 8 k) (fun k => hf.1 9 k (by omega) (by omega) (by omega)) (hf.1 7 2 (by omega) (by omega) (by omega)) (hf.1 7 3 (by omega) (by omega) (by omega)) (hg.2 1 13) (fun o k x y => hg.1 o k (by omega) (by omega) (by omega)) (fun o k x y => hg.1 o k (by omega) (by omega) (by omega))
/-- what an expression leaves -/
def yop (g : Nat) : Int32 := if g = 1026 then 15 else if g = 1027 then 14 else if g = 1028 then 8 else if g = 1029 then 9 else if g = 1030 then 10 else if g = 1031 then 11 else if g = 1032 then 12 else if g = 1033 then 13 else if g = 1034 then 3 else if g = 1035 then 4 else if g = 1036 then 5 else if g = 1025 then 7 else 6
def ysp (t : Nat) (g : Nat × Int32) : List Int32 := if g.1 = 1003 then [0, g.2] else if g.1 = 1002 then (if g.2 < 8 then [1, g.2] else [2, g.2 - nI (20 + 3 * t)]) else [yop g.1]
def yCl (σ : zs_S) (p : Nat) : List (Nat × Int32) → Nat → Nat → Prop
  | [], c, d => c = d
  | g :: l, c, d => zs_r σ (p + 56) c = g.1 ∧ zs_i σ (p + 57) c = g.2 ∧ yCl σ p l (c + 1) d
def yRw (τ : zs_S) (q : Nat) : List Int32 → Nat → Nat → Prop
  | [], e, d => e = d
  | x :: l, e, d => zs_i τ (q + 14) e = x ∧ yRw τ q l (e + 1) d
def yok : List (Nat × Int32) → Nat → Nat → Prop
  | [], h, k => h = k
  | g :: l, h, k => if g.1 = 1003 ∨ g.1 = 1002 then h < 150 ∧ yok l (h + 1) k else if g.1 = 1025 ∨ g.1 = 1004 then 1 ≤ h ∧ yok l h k else 2 ≤ h ∧ yok l (h - 1) k
def yEl (t V T : Nat) (g : Nat × Int32) : Prop := (g.1 = 1003 ∧ ∃ k, k ≤ 127 ∧ g.2 = nI k) ∨ (g.1 = 1002 ∧ ∃ k, k < V ∧ g.2 = nI k) ∨ (g.1 = 1002 ∧ ∃ k, k < T ∧ g.2 = nI (20 + 3 * t + k)) ∨ ((g.1 = 1025 ∨ g.1 = 1004) ∨ (1026 ≤ g.1 ∧ g.1 ≤ 1036))
def yu1 (u : Int32) (g : Nat × Int32) : Int32 := if g.1 = 1002 ∧ g.2 < 8 then u ||| (1 <<< (g.2 &&& 31)) else u
theorem yCl_le {σ : zs_S} {p : Nat} : ∀ {l : List (Nat × Int32)} {c d : Nat}, yCl σ p l c d → d = c + l.length := by
  intro l
  induction l with
  | nil => intro c d h; exact h.symm
  | cons g l ih =>
    intro c d h
    have := ih h.2.2
    rw [List.length_cons]
    omega
theorem yCl_a {σ : zs_S} {p : Nat} {l2 : List (Nat × Int32)} {c2 d : Nat} (h2 : yCl σ p l2 c2 d) : ∀ {l1 : List (Nat × Int32)} {c : Nat}, yCl σ p l1 c c2 → yCl σ p (l1 ++ l2) c d := by
  intro l1
  induction l1 with
  | nil => intro c h; have h : c = c2 := h; subst h; exact h2
  | cons g l ih => intro c h; exact ⟨h.1, h.2.1, ih h.2.2⟩
theorem yCl_F {σ σ' : zs_S} {p : Nat} : ∀ {l : List (Nat × Int32)} {c d : Nat}, yCl σ p l c d → (∀ k, c ≤ k → k < d → zs_r σ' (p + 56) k = zs_r σ (p + 56) k ∧ zs_i σ' (p + 57) k = zs_i σ (p + 57) k) → yCl σ' p l c d := by
  intro l
  induction l with
  | nil => intro c d h _; exact h
  | cons g l ih =>
    intro c d h hk
    have hl := yCl_le h.2.2
    have := hk c (by omega) (by omega)
    exact ⟨this.1.trans h.1, this.2.trans h.2.1, ih h.2.2 (fun k k1 k2 => hk k (by omega) k2)⟩
theorem yRw_le {τ : zs_S} {q : Nat} : ∀ {l : List Int32} {c d : Nat}, yRw τ q l c d → d = c + l.length := by
  intro l
  induction l with
  | nil => intro c d h; exact h.symm
  | cons g l ih =>
    intro c d h
    have := ih h.2
    rw [List.length_cons]
    omega
theorem yRw_a {τ : zs_S} {q : Nat} {l2 : List Int32} {c2 d : Nat} (h2 : yRw τ q l2 c2 d) : ∀ {l1 : List Int32} {c : Nat}, yRw τ q l1 c c2 → yRw τ q (l1 ++ l2) c d := by
  intro l1
  induction l1 with
  | nil => intro c h; have h : c = c2 := h; subst h; exact h2
  | cons g l ih => intro c h; exact ⟨h.1, ih h.2⟩
theorem yRw_F {τ τ' : zs_S} {q : Nat} : ∀ {l : List Int32} {c d : Nat}, yRw τ q l c d → (∀ k, c ≤ k → k < d → zs_i τ' (q + 14) k = zs_i τ (q + 14) k) → yRw τ' q l c d := by
  intro l
  induction l with
  | nil => intro c d h _; exact h
  | cons g l ih =>
    intro c d h hk
    have hl := yRw_le h.2
    exact ⟨(hk c (by omega) (by omega)).trans h.1, ih h.2 (fun k k1 k2 => hk k (by omega) k2)⟩
theorem yok_a {l2 : List (Nat × Int32)} {k j : Nat} (h2 : yok l2 k j) : ∀ {l1 : List (Nat × Int32)} {h : Nat}, yok l1 h k → yok (l1 ++ l2) h j := by
  intro l1
  induction l1 with
  | nil => intro h e; have e : h = k := e; subst e; exact h2
  | cons g l ih =>
    intro h e
    rw [List.cons_append, yok]
    rw [yok] at e
    by_cases q1 : g.1 = 1003 ∨ g.1 = 1002
    · rw [if_pos q1] at e ⊢
      exact ⟨e.1, ih e.2⟩
    · rw [if_neg q1] at e ⊢
      by_cases q2 : g.1 = 1025 ∨ g.1 = 1004
      · rw [if_pos q2] at e ⊢
        exact ⟨e.1, ih e.2⟩
      · rw [if_neg q2] at e ⊢
        exact ⟨e.1, ih e.2⟩
/-- an expression (u = 0), or what comes behind its first operand (u = 1), has been read -/
def yXO (F : Nat) (v : Nat → Nat) (n m p q t V L T u i s a c e : Nat) (σ τ : zs_S) (i' a' c' e' : Nat) (l : List (Nat × Int32)) (σ' τ' : zs_S) : Prop := (yfC p c σ σ' ∧ yfM q e τ τ') ∧ (i < i' + u ∧ a < a' + u ∧ i ≤ i' ∧ a ≤ a' ∧ c ≤ c' ∧ e ≤ e' ∧ c' + i ≤ i' + c ∧ e' + 2 * c ≤ e + 2 * c') ∧ yN F v n m p q t V L T i' s a' c' e' σ' τ' ∧ (yCl σ' p l c c' ∧ yRw τ' q (l.flatMap (ysp t)) e e') ∧ (∀ x, x ∈ l → yEl t V T x) ∧ (∀ h, h + u + (a' - a) ≤ 150 → yok l (h + u) (h + 1)) ∧ zs_i σ' 7 10 = l.foldl yu1 (zs_i σ 7 10)
def yXF (p q c e : Nat) (σ τ σ' τ' : zs_S) : Prop := (yfC p c σ σ' ∧ yfM q e τ τ') ∧ ∃ f c', yK p (nI f) σ' ∧ zs_i τ' 1 11 = nI f ∧ f ≤ 1600 ∧ zs_i σ' (p + 55) 3 = nI c' ∧ c ≤ c' ∧ c' ≤ 1600
def yXP (F : Nat) (v : Nat → Nat) (n m p q t V L T u i s a c e : Nat) (σ τ : zs_S) (r : Int32) (σ' τ' : zs_S) : Prop := (r = 1 ∧ ∃ i' a' c' e' l, yXO F v n m p q t V L T u i s a c e σ τ i' a' c' e' l σ' τ') ∨ (r = 0 ∧ yXF p q c e σ τ σ' τ')
theorem yXO_r {i s a c e : Nat} {σ τ : zs_S} (h : yN F v n m p q t V L T i s a c e σ τ) : yXO F v n m p q t V L T 1 i s a c e σ τ i a c e [] σ τ :=
  ⟨⟨yfC_r p c σ, yfM_r q e τ⟩, by omega, h, ⟨rfl, rfl⟩, fun x hx => absurd hx List.not_mem_nil, fun h _ => rfl, rfl⟩
theorem yXO_t {u i s a c e i1 a1 c1 e1 i2 a2 c2 e2 : Nat} {σ τ σ1 τ1 σ2 τ2 : zs_S} {l1 l2 : List (Nat × Int32)} (h : yXO F v n m p q t V L T u i s a c e σ τ i1 a1 c1 e1 l1 σ1 τ1) (g : yXO F v n m p q t V L T 1 i1 s a1 c1 e1 σ1 τ1 i2 a2 c2 e2 l2 σ2 τ2) : yXO F v n m p q t V L T u i s a c e σ τ i2 a2 c2 e2 (l1 ++ l2) σ2 τ2 := by
  obtain ⟨⟨h1, h2⟩, h3, h4, ⟨h5, h6⟩, h7, h8, h9⟩ := h
  obtain ⟨⟨g1, g2⟩, g3, g4, ⟨g5, g6⟩, g7, g8, g9⟩ := g
  have hp2 := yPP_b g4.1.2.1
  have hq2 := yQQ_b g4.1.2.2
  refine ⟨⟨yfC_t h1 g1 (by omega), yfM_t h2 g2 (by omega)⟩, by omega, g4, ⟨yCl_a g5 (yCl_F h5 (fun k k1 k2 => ⟨g1.2.1 _ _ (by omega) (by omega), g1.1 _ _ (by omega) (by omega) (by omega)⟩)), ?_⟩, fun x hx => ?_, fun hh k => ?_, ?_⟩
  · rw [List.flatMap_append]
    exact yRw_a g6 (yRw_F h6 (fun k k1 k2 => g2.1 _ _ (by omega) (by omega) (by omega)))
  · rcases List.mem_append.mp hx with hx | hx
    · exact h7 x hx
    · exact g7 x hx
  · refine yok_a (k := hh + 1) (g8 hh (by omega)) (h8 hh (by omega))
  · rw [List.foldl_append, ← h9]
    exact g9
theorem yXF_t {u i s a c e i1 a1 c1 e1 : Nat} {σ τ σ1 τ1 σ2 τ2 : zs_S} {l1 : List (Nat × Int32)} (h : yXO F v n m p q t V L T u i s a c e σ τ i1 a1 c1 e1 l1 σ1 τ1) (g : yXF p q c1 e1 σ1 τ1 σ2 τ2) : yXF p q c e σ τ σ2 τ2 := by
  obtain ⟨⟨h1, h2⟩, h3, h4, ⟨h5, h6⟩, h7, h8, h9⟩ := h
  obtain ⟨⟨g1, g2⟩, f, c', g3, g4, g5, g6, g7, g8⟩ := g
  exact ⟨⟨yfC_t h1 g1 (by omega), yfM_t h2 g2 (by omega)⟩, f, c', g3, g4, g5, g6, by omega, g8⟩
theorem yXF_f {c e : Nat} {σ τ σ1 τ1 σ2 τ2 : zs_S} (h1 : yfC p c σ σ1) (h2 : yfM q e τ τ1) (g : yXF p q c e σ1 τ1 σ2 τ2) : yXF p q c e σ τ σ2 τ2 := by
  obtain ⟨⟨g1, g2⟩, f, c', g3, g4, g5, g6, g7, g8⟩ := g
  exact ⟨⟨yfC_t h1 g1 (by omega), yfM_t h2 g2 (by omega)⟩, f, c', g3, g4, g5, g6, by omega, g8⟩
/-- the next token, both sides -/
theorem yN_st {i s a c e : Nat} {σ τ : zs_S} (h : yN F v n m p q t V L T i s a c e σ τ) (hi : i < m) : ∃ τ1, zf_Parser_advance F σ = some (yadv v n i σ) ∧ zf_M_step F τ = some τ1 ∧ yN F v n m p q t V L T (i + 1) s a c e (yadv v n i σ) τ1 ∧ yfC p c σ (yadv v n i σ) ∧ ym_L τ τ1 ∧ zs_i (yadv v n i σ) 7 10 = zs_i σ 7 10 := by
  have h0 := h
  obtain ⟨⟨h1, hp, hq⟩, h4, h5, ⟨h6, h7, h8⟩, ⟨h9, h9b, h9c⟩, h10, h11, h12⟩ := h
  have hp2 := yPP_b hp
  have hq2 := yQQ_b hq
  obtain ⟨k1, k2⟩ := yy_adv (F := F) h1 h4 hi
  obtain ⟨τ1, k3, k4, k5⟩ := yw_e (ym_step h1 h5 hi)
  have hf : yfC p c σ (yadv v n i σ) := by
    unfold yadv
    exact ⟨fun o k x y z => by rw [yt_ir, yt_in _ _ (by omega)], fun o k x y => by rw [yt_rn _ _ (by omega), yt_ri], fun o k => rfl⟩
  refine ⟨τ1, k1, k3, yN_mk h0 hf (yfM_L k5) k2 k4 ⟨?_, (k5.1 1 14 (by omega)).trans h9b, h9c⟩ ⟨?_, by omega⟩ ⟨(k5.1 q 12 (by omega)).trans h11.1, h11.2⟩, hf, k5, ?_⟩
  · unfold yadv
    rw [yt_ir, yt_in _ _ (by omega)]
    exact h9
  · unfold yadv
    rw [yt_ir, yt_in _ _ (by omega)]
    exact h10.1
  · unfold yadv
    rw [yt_ir, yt_in _ _ (by omega)]
/-- a fault, both sides -/
theorem yN_fl {i s a c e : Nat} {σ τ : zs_S} (h : yN F v n m p q t V L T i s a c e σ τ) : zf_Parser_fail F σ = some (yfl v n i σ) ∧ zf_M_bad F τ = some (0, zs_wi τ 1 11 (nI (yx_ps v n i))) ∧ yXF p q c e σ τ (yfl v n i σ) (zs_wi τ 1 11 (nI (yx_ps v n i))) := by
  obtain ⟨⟨h1, hp, hq⟩, h4, h5, ⟨h6, h7, h8⟩, ⟨h9, h9b, h9c⟩, h10, h11, h12⟩ := h
  have hp2 := yPP_b hp
  have hq2 := yQQ_b hq
  have hi : i ≤ m := h4.2.2.2.2.2.1
  have hm := yB_m h1
  have hn := h1.1
  obtain ⟨k1, k2⟩ := yy_fail (F := F) h1 h4
  refine ⟨k1, ym_bad h5, ⟨?_, ?_⟩, yx_ps v n i, c, k2, yt_ie _ _ _ _, by have := yB_p h1 hi; omega, ?_, by omega, by omega⟩
  · unfold yfl
    exact ⟨fun o k x y z => by rw [yt_ir, yt_in _ _ (by omega)], fun o k x y => by rw [yt_rn _ _ (by omega), yt_ri], fun o k => rfl⟩
  · exact ⟨fun o k x y z => by rw [yt_in _ _ (by omega)], fun o k => rfl⟩
  · unfold yfl
    rw [yt_ir, yt_in _ _ (by omega)]
    exact h10.1
/-- one more sign, both sides -/
theorem yN_sg {i s a c e g : Nat} {σ τ : zs_S} (h : yN F v n m p q t V L T i s a c e σ τ) (hc : c < i) (hg : 1000 ≤ g) (hg2 : g < 1037) : ∃ σ' τ', zf_Code_add F (p + 55) g 0 σ = some σ' ∧ zf_M_put F (yop g) τ = some τ' ∧ yN F v n m p q t V L T i s a (c + 1) (e + 1) σ' τ' ∧ yfC p c σ σ' ∧ yfM q e τ τ' ∧ zs_r σ' (p + 56) c = g ∧ zs_i σ' (p + 57) c = 0 ∧ zs_i τ' (q + 14) e = yop g ∧ zs_i σ' 7 10 = zs_i σ 7 10 := by
  have h0 := h
  obtain ⟨⟨h1, hp, hq⟩, h4, h5, ⟨h6, h7, h8⟩, ⟨h9, h9b, h9c⟩, ⟨h10, h10b⟩, ⟨h11, h11b⟩, h12⟩ := h
  have hp2 := yPP_b hp
  have hq2 := yQQ_b hq
  have hi : i ≤ m := h4.2.2.2.2.2.1
  have hm := yB_m h1
  refine ⟨_, _, yy_addc hp h10 (by omega) hg hg2, ym_put hq h5.2.2.1 h11 (by omega), ?_, ?_, ?_, ?_, ?_, ?_, ?_⟩
  · refine yN_mk h0 (c' := c + 1) (e' := e + 1) ?_ ?_ ?_ ?_ ⟨?_, ?_, h9c⟩ ⟨yt_ie _ _ _ _, hc⟩ ⟨yt_ie _ _ _ _, by omega⟩
    · exact ⟨fun o k x y z => by simp (disch := omega) only [yt_in, yt_ir], fun o k x y => by simp (disch := omega) only [yt_ri, yt_rn], fun o k => rfl⟩
    · exact ⟨fun o k x y z => by simp (disch := omega) only [yt_in], fun o k => rfl⟩
    · obtain ⟨a1, a2, a3, a4, a5, a6, a7⟩ := h4
      exact ⟨by simp (disch := omega) only [yt_ri, yt_rn]; exact a1, by simp (disch := omega) only [yt_ri, yt_rn]; exact a2, by simp (disch := omega) only [yt_in, yt_ir]; exact a3, by simp (disch := omega) only [yt_in, yt_ir]; exact a4, by simp (disch := omega) only [yt_ri, yt_rn]; exact a5, a6, yx_rowsF a7 (fun k => by simp (disch := omega) only [yt_ri, yt_rn]) (fun k => by simp (disch := omega) only [yt_in, yt_ir]) (fun k => rfl)⟩
    · exact yM_L h5 (fun k => by simp (disch := omega) only [yt_in]) (fun k _ _ => by simp (disch := omega) only [yt_in]) rfl
    · simp (disch := omega) only [yt_in, yt_ir]
      exact h9
    · simp (disch := omega) only [yt_in]
      exact h9b
  · exact ⟨fun o k x y z => by simp (disch := omega) only [yt_in, yt_ir], fun o k x y => by simp (disch := omega) only [yt_ri, yt_rn], fun o k => rfl⟩
  · exact ⟨fun o k x y z => by simp (disch := omega) only [yt_in], fun o k => rfl⟩
  · simp (disch := omega) only [yt_ri, yt_re]
  · simp (disch := omega) only [yt_in, yt_ie]
  · simp (disch := omega) only [yt_in, yt_ie]
  · simp (disch := omega) only [yt_in, yt_ir]
/-- .. after a fault, the class alone -/
theorem yy_addk {c g : Nat} {σ : zs_S} {x : Int32} (hp : yPP p) (h : zs_i σ (p + 55) 3 = nI c) (hc : c ≤ 1600) (hg : 1000 ≤ g) (hg2 : g < 1037) : ∃ σ' c', zf_Code_add F (p + 55) g x σ = some σ' ∧ c ≤ c' ∧ c' ≤ 1600 ∧ zs_i σ' (p + 55) 3 = nI c' ∧ yfC p c σ σ' ∧ (∀ k, zs_i σ' 7 k = zs_i σ 7 k) ∧ (∀ k, zs_r σ' 7 k = zs_r σ 7 k) := by
  have hp2 := yPP_b hp
  by_cases q : c < 1600
  · refine ⟨_, c + 1, yy_addc hp h q hg hg2, by omega, by omega, yt_ie _ _ _ _, ?_, fun k => ?_, fun k => ?_⟩
    · exact ⟨fun o k x y z => by simp (disch := omega) only [yt_in, yt_ir], fun o k x y => by simp (disch := omega) only [yt_ri, yt_rn], fun o k => rfl⟩
    · simp (disch := omega) only [yt_in, yt_ir]
    · simp (disch := omega) only [yt_ri, yt_rn]
  · have hc2 : c = 1600 := by omega
    subst hc2
    refine ⟨σ, 1600, ?_, by omega, by omega, h, yfC_r p _ σ, fun k => rfl, fun k => rfl⟩
    unfold zf_Code_add zf_Code_add_40
    rw [yp_k55 hp, zq_gr, h, if_pos (by decide)]
theorem yK_F {f : Int32} {σ σ' : zs_S} (h : yK p f σ) (h1 : ∀ k, zs_i σ' 7 k = zs_i σ 7 k) (h2 : ∀ k, zs_r σ' 7 k = zs_r σ 7 k) : yK p f σ' := ⟨(h2 4).trans h.1, (h2 7).trans h.2.1, (h1 8).trans h.2.2.1, h.2.2.2.1, (h2 6).trans h.2.2.2.2⟩
end YEA
