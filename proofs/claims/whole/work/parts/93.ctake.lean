/-! explorer: rows that follow; the class's step -/
section YCT
variable {F n m p q t V L T : Nat} {v : Nat → Nat}
def yww (tg : Nat → Nat) (C : Nat → Int32) (c w : Nat) : Prop := C (16 + w) = 1 ∧ tg (ypl C w) = c
def yw1 (tg : Nat → Nat) (C : Nat → Int32) (c w : Nat) : Bool := decide (C (16 + w) = 1) && decide (tg (ypl C w) = c)
theorem yw1_i {tg : Nat → Nat} {C : Nat → Int32} {c w : Nat} : yw1 tg C c w = true ↔ yww tg C c w := by
  unfold yw1 yww
  rw [Bool.and_eq_true, decide_eq_true_eq, decide_eq_true_eq]
/-- who waits, from j on; all of them woken -/
def ywf (tg : Nat → Nat) (C : Nat → Int32) (c : Nat) : Nat → Nat → List Nat
  | _, 0 => []
  | j, d + 1 => if yw1 tg C c j = true then j :: ywf tg C c (j + 1) d else ywf tg C c (j + 1) d
def ywa (tg : Nat → Nat) (C : Nat → Int32) (c : Nat) : (Nat → Int32) → Nat → Nat → (Nat → Int32)
  | D, _, 0 => D
  | D, j, d + 1 => ywa tg C c (if yw1 tg C c j = true then yU D (16 + j) 2 else D) (j + 1) d
def ywk (C : Nat → Int32) (t : Nat) (y : Int32) (l : List Nat) : List (Nat → Int32) := l.map (fun w => yU (yU C (16 + w) 2) (12 + t) y)
/-- the rows that a step of the thread t leads to -/
def ysu (tt : Nat) (kd tg : Nat → Nat) (wy : Nat → Nat → Int32) (ex : Nat → List (Nat × Int32)) (C : Nat → Int32) (t : Nat) : List (Nat → Int32) := if C (16 + t) = 2 then [yU (yU (yU C (16 + t) 0) (tg (ypl C t)) (nI t)) (12 + t) (wy (ypl C t) 0)] else if (2 ≤ kd (ypl C t) ∧ kd (ypl C t) ≤ 5) ∧ ¬ C (tg (ypl C t)) = nI t then [yU (yU C 32 2) 33 (nI t)] else if kd (ypl C t) = 0 then [yU (yU C (tg (ypl C t)) (yval C (ex (ypl C t)))) (12 + t) (wy (ypl C t) 0)] else if kd (ypl C t) = 1 then [yU (yU C (tg (ypl C t)) (nI t)) (12 + t) (wy (ypl C t) 0)] else if kd (ypl C t) = 2 then [yU (yU C (tg (ypl C t)) (-1)) (12 + t) (wy (ypl C t) 0)] else if kd (ypl C t) = 3 then [yU (yU C (tg (ypl C t)) (-1)) (16 + t) 1] else if kd (ypl C t) = 4 then (if ywf tg C (tg (ypl C t)) 0 tt = [] then [yU C (12 + t) (wy (ypl C t) 0)] else ywk C t (wy (ypl C t) 0) (ywf tg C (tg (ypl C t)) 0 tt)) else if kd (ypl C t) = 5 then [yU (ywa tg C (tg (ypl C t)) C 0 tt) (12 + t) (wy (ypl C t) 0)] else if kd (ypl C t) = 6 then (if yval C (ex (ypl C t)) = 0 then [yU (yU C 32 1) 33 (nI t)] else [yU C (12 + t) (wy (ypl C t) 0)]) else if kd (ypl C t) = 9 then [yU C (12 + t) (-1)] else [yU C (12 + t) (if yval C (ex (ypl C t)) = 0 then wy (ypl C t) 2 else wy (ypl C t) 1)]
theorem yPc_F {tt S : Nat} {B Tt kd tg : Nat → Nat} {wy : Nat → Nat → Int32} {ex : Nat → List (Nat × Int32)} {σ σ' : zs_S} (hp : yPP p) (hpp : yPp V L tt S B Tt kd tg wy ex) (hf : yfE p σ σ') (h : yPc σ p V L tt S B Tt kd tg wy ex) : yPc σ' p V L tt S B Tt kd tg wy ex := by
  have hp2 := yPP_b hp
  have hi : ∀ o k, p ≤ o → o < p + 58 → zs_i σ' o k = zs_i σ o k := fun o k x y => hf.1 o k (by omega) (by omega)
  obtain ⟨⟨a1, a2, a3, a4⟩, b, c⟩ := h
  refine ⟨⟨(hi _ _ (by omega) (by omega)).trans a1, (hi _ _ (by omega) (by omega)).trans a2, (hi _ _ (by omega) (by omega)).trans a3, (hi _ _ (by omega) (by omega)).trans a4⟩, fun t ht => (hi _ _ (by omega) (by omega)).trans (b t ht), fun t x h1 h2 h3 => ?_⟩
  have hx : x < 50 := by
    have := hpp.2.1.2.2.2 (t + 1) (by omega)
    have := hpp.1
    omega
  obtain ⟨c1, c2, c3, c4, c5⟩ := c t x h1 h2 h3
  have hwc : ∀ w, zs_i σ' (p + 5 + x) w = zs_i σ (p + 5 + x) w := fun w => hi _ _ (by omega) (by omega)
  refine ⟨(hf.2.1 _ _).trans c1, fun hk => (hwc 2).trans (c2 hk), fun w hw vl => (hwc _).trans (c3 w hw vl), fun hh => ?_, (hwc 8).trans c5⟩
  obtain ⟨c, c', d1, d2, d3, d4⟩ := c4 hh
  exact ⟨c, c', (hwc 3).trans d1, (hwc 4).trans d2, d3, yCl_F d4 (fun k _ _ => ⟨hf.2.1 _ _, hi _ _ (by omega) (by omega)⟩)⟩
theorem yval_b {C : Nat → Int32} {l : List (Nat × Int32)} (hC : ∀ k, k < 34 → yb8 (C k)) (hV : V ≤ 8 ∧ t < 4 ∧ T ≤ 3) (h : ∀ g, g ∈ l → yEl t V T g) : yb8 (yval C l) := by
  have := yev_b (C := C) (st := []) hC hV h (fun x hx => absurd hx List.not_mem_nil)
  unfold yval
  cases hl : l.foldl (ys1 C) [] with
  | nil => exact yb8_01.1
  | cons a r => exact this a (by rw [hl]; exact List.mem_cons_self)
theorem yx_res {s t tt S x : Nat} {B Tt kd tg : Nat → Nat} {wy : Nat → Nat → Int32} {ex : Nat → List (Nat × Int32)} {W : Nat × (Nat → Nat → Int32) × (Nat → Int32) × (Nat → Int32) × (Nat → Int32) × Nat × (Nat → Nat) × Bool} {D : Nat → Int32} {σ : zs_S} (hp : yPP p) (hF : 1700 < F) (hpp : yPp V L tt S B Tt kd tg wy ex) (hpc : yPc σ p V L tt S B Tt kd tg wy ex) (h : yCx σ W D s) (h138 : zs_r σ 138 1 = p) (hs : s < W.1) (ht : t < tt) (x1 : B t ≤ x) (x2 : x < B (t + 1)) (hk : kd x = 0 ∨ (6 ≤ kd x ∧ kd x ≤ 8)) : ∃ σ', zf_Explorer_resultIn F (nI s) (p + 5 + x) σ = some (yval (W.2.1 s) (ex x), σ') ∧ yCx σ' W D s ∧ yfF p s σ σ' := by
  have hp2 := yPP_b hp
  have hx50 : x < 50 := by
    have := hpp.2.1.2.2.2 (t + 1) (by omega)
    have := hpp.1
    omega
  obtain ⟨h1, h2, h3⟩ := h
  have hZ := h1.1.1.1.2
  obtain ⟨-, -, -, -, q5⟩ := hpp.2.2.2 t x ht x1 x2
  obtain ⟨q6, q7⟩ := q5 hk
  obtain ⟨-, -, -, r4, -⟩ := hpc.2.2 t x ht x1 x2
  obtain ⟨c, c', d1, d2, d3, d4⟩ := r4 hk
  have hT3 := hpp.2.2.1 t ht
  have hcl := yCl_le d4
  obtain ⟨σ', e1, e2, e3, e4⟩ := yy_res (F := F) (C := W.2.1 s) (b := 34 * s) (V := V) (t := t) (T := Tt t) hp ⟨hpp.1.1, by have := hpp.1; omega, hT3⟩ d3 (by omega) (ex x) c F σ [] d4 q7 (by show 0 ≤ 150; omega) trivial q6 (fun k hk => h1.1.1.2.1 s k hs hk) (by omega)
  have e1' : zf_Code_result_6 F F (p + 55) (nI c') 11 (nI (34 * s)) (-1) (nI c) σ = some (yval (W.2.1 s) (ex x), σ') := e1
  refine ⟨σ', ?_, ⟨ycW_b (p := p) h1 (fun o k w1 w2 => e2 o k w2) (by omega), fun k hk => (e2 _ _ (by omega)).trans (h2 k hk), (e2 _ _ (by omega)).trans h3⟩, ⟨fun o k w1 w2 => e2 o k w2, e3, e4⟩, fun k hk => e2 _ _ (by omega)⟩
  unfold zf_Explorer_resultIn zf_Code_result
  rw [h138, zq_qr (by omega), yp_k hp, yq_g, yp_r8 hp, zq_qr (by omega), yp_sk hp hx50, yq_g, yp_k55 hp, yq_g, d1, d2, yn_34, e1', yq_c]
theorem yx_wf {s j x tt S : Nat} {B Tt kd tg : Nat → Nat} {wy : Nat → Nat → Int32} {ex : Nat → List (Nat × Int32)} {W : Nat × (Nat → Nat → Int32) × (Nat → Int32) × (Nat → Int32) × (Nat → Int32) × Nat × (Nat → Nat) × Bool} {σ : zs_S} (hp : yPP p) (hpp : yPp V L tt S B Tt kd tg wy ex) (hpc : yPc σ p V L tt S B Tt kd tg wy ex) (h : ycW σ W) (h138 : zs_r σ 138 1 = p) (hs : s < W.1) (hj : j < tt) (hv : yRV tt B kd (W.2.1 s)) (htg : tg x < 34) : zf_Explorer_waitsFor F (nI s) (nI j) (nI (tg x)) σ = some (if yw1 tg (W.2.1 s) (tg x) j = true then 1 else 0, σ) := by
  have hp2 := yPP_b hp
  have hj4 : j < 4 := by have := hpp.1; omega
  obtain ⟨v1, v2, v3, v4, v5, v6⟩ := hv
  unfold zf_Explorer_waitsFor zf_Explorer_waitsFor_33 zf_Explorer_waitsFor_34
  rw [show (16 : Int32) + nI j = nI (16 + j) from nI_add 16 j, yx_cell h hs (show 16 + j < 34 by omega), yq_c]
  by_cases e1 : W.2.1 s (16 + j) = 1
  · rw [if_pos e1]
    rcases v4 j hj with hh | ⟨-, y, y1, y2, y3, y4⟩
    · rw [hh] at e1
      exact absurd e1 (by decide)
    · have hy50 : y < 50 := by
        have := hpp.2.1.2.2.2 (j + 1) (by omega)
        have := hpp.1
        omega
      obtain ⟨r1, r2, -⟩ := hpc.2.2 j y hj y1 y2
      obtain ⟨-, -, q3, -⟩ := hpp.2.2.2 j y hj y1 y2
      have htgy := q3 (by omega)
      have hL := hpp.1
      have hpl : ypl (W.2.1 s) j = y := by
        unfold ypl
        rw [y3, nI_clamp (by omega)]
      rw [yx_next hp h h138 hs hj4 hy50 y3, yq_c, yp_sk hp hy50, yq_g, r2 (by omega)]
      by_cases e2 : tg y = tg x
      · rw [if_pos (show nI (tg y) = nI (tg x) by rw [e2]), yz_1, yq_g, if_pos (yw1_i.mpr ⟨e1, by rw [hpl]; exact e2⟩)]
      · rw [if_neg (fun e => e2 ((nI_eq (by omega) (by omega)).mp e)), yz_0, yq_g, if_neg (fun hh => e2 (by have := (yw1_i.mp hh).2; rw [hpl] at this; exact this))]
  · rw [if_neg e1, yz_0, yq_g, if_neg (fun hh => e1 (yw1_i.mp hh).1)]
/-- wake one -/
theorem yx_wk {s t x tt S : Nat} {y : Int32} {B Tt kd tg : Nat → Nat} {wy : Nat → Nat → Int32} {ex : Nat → List (Nat × Int32)} {C : Nat → Int32} (hp : yPP p) (hF : 1700 < F) (hpp : yPp V L tt S B Tt kd tg wy ex) (ht : t < tt) (hx : x < 50) (hv : yRV tt B kd C) (htg : tg x < 34) (hy : yb8 y) : ∀ d j N (W : Nat × (Nat → Nat → Int32) × (Nat → Int32) × (Nat → Int32) × (Nat → Int32) × Nat × (Nat → Nat) × Bool) σ (x4 : Int32), j + d = tt → d < N → ycW σ W → zs_i σ 16 (s + 1) = nI W.2.2.2.2.2.1 → yPc σ p V L tt S B Tt kd tg wy ex → zs_r σ 138 1 = p → s < W.1 → W.2.1 s = C → zs_i σ (p + 5 + x) 2 = nI (tg x) → zs_i σ (p + 5 + x) 7 = y → W.2.2.2.2.2.1 + (ywf tg C (tg x) j d).length + 1 ≤ 3200 → (x4 = 0 ∨ (x4 = 1 ∧ yXb σ W.1 C)) → ∃ σ', zf_Explorer_wakeOne_6 F N (nI s) (nI t) (p + 5 + x) x4 (nI j) σ = some σ' ∧ ycW σ' ((if x4 = 1 ∧ ywf tg C (tg x) j d = [] then [yU C (12 + t) y] else ywk C t y (ywf tg C (tg x) j d)).foldl (ykp s (nI t)) W) ∧ zs_i σ' 16 (s + 1) = nI ((if x4 = 1 ∧ ywf tg C (tg x) j d = [] then [yU C (12 + t) y] else ywk C t y (ywf tg C (tg x) j d)).foldl (ykp s (nI t)) W).2.2.2.2.2.1 ∧ yfF p s σ σ' := by
  have hp2 := yPP_b hp
  have ht4 : t < 4 := by have := hpp.1; omega
  have hb2 : yb8 2 := (yb8_n 2 (by decide)).1
  intro d
  induction d with
  | zero =>
    intro j N W σ x4 h1 h2 h3 h4 h5 h6 h7 h8 h9 h10 h11 h12
    obtain ⟨N, rfl⟩ : ∃ q, N = q + 1 := ⟨N - 1, by omega⟩
    have hj : j = tt := by omega
    rw [zf_Explorer_wakeOne_6, h6, zq_qr (by omega), yp_k hp, yq_g, h5.1.2.2.1, hj, if_pos (nI_le (Nat.le_refl _) (by have := hpp.1; omega))]
    unfold zf_Explorer_wakeOne_87
    rcases h12 with e | ⟨e, hX⟩
    · rw [if_pos e, if_neg (fun hh => by rw [e] at hh; exact absurd hh.1 (by decide))]
      exact ⟨σ, rfl, h3, h4, yfF_r s σ⟩
    · rw [if_neg (by rw [e]; decide), if_pos ⟨e, rfl⟩, yp_sk hp hx, yq_g, h10]
      obtain ⟨σ', f1, f2, f3, f4⟩ := yx_go (F := F) (y := y) hp ⟨h3, hX, h4⟩ ht4 hy h7 (by omega) (by omega)
      rw [f1, yq_s]
      exact ⟨σ', rfl, f2, f3, f4⟩
  | succ d ih =>
    intro j N W σ x4 h1 h2 h3 h4 h5 h6 h7 h8 h9 h10 h11 h12
    obtain ⟨N, rfl⟩ : ∃ q, N = q + 1 := ⟨N - 1, by omega⟩
    have hjt : j < tt := by omega
    have hj4 : j < 4 := by have := hpp.1; omega
    have hvW : yRV tt B kd (W.2.1 s) := by rw [h8]; exact hv
    have hwt := yx_wf (F := F) (x := x) hp hpp h5 h3 h6 h7 hjt hvW htg
    rw [h8] at hwt
    rw [zf_Explorer_wakeOne_6, h6, zq_qr (by omega), yp_k hp, yq_g, h5.1.2.2.1, if_neg (nI_ge hjt (by have := hpp.1; omega)), yp_sk hp hx, yq_g, h9, hwt, yq_c]
    unfold zf_Explorer_wakeOne_66
    by_cases hw : yw1 tg C (tg x) j = true
    · have ewf : ywf tg C (tg x) j (d + 1) = j :: ywf tg C (tg x) (j + 1) d := by
        show (if yw1 tg C (tg x) j = true then _ else _) = _
        rw [if_pos hw]
      rw [ewf] at h11 ⊢
      rw [if_pos hw, if_neg y01, if_neg (fun hh => absurd hh.2 (List.cons_ne_nil _ _))]
      rw [List.length_cons] at h11
      obtain ⟨σ1, f1, f2, f3⟩ := yx_copy (F := F) hp h3 h4 h7 hvW.1
      rw [h8] at f2
      obtain ⟨σ2, g1, g2, g3⟩ := yx_set (F := F) (k := 16 + j) (x := 2) hp f2 (by omega) hb2
      have hf02 : yfF p s σ σ2 := yfF_t f3 g3
      have hy2 : zs_i σ2 (p + 5 + x) 7 = y := (hf02.1.1 _ _ (by omega) (by omega)).trans h10
      obtain ⟨σ3, k1, k2, k3, k4⟩ := yx_go (F := F) (y := y) hp g2 ht4 hy h7 (by omega) (by omega)
      have hf03 : yfF p s σ σ3 := yfF_t hf02 k4
      rw [f1, yq_s, show (16 : Int32) + nI j = nI (16 + j) from nI_add 16 j, g1, yq_s, hy2, k1, yq_s, nI_1, yq_v]
      have gg := ykp_g (s := s) (x2 := nI t) (W := W) (X := yU (yU C (16 + j) 2) (12 + t) y)
      obtain ⟨σ', z1, z2, z3, z4⟩ := ih (j + 1) N (ykp s (nI t) W (yU (yU C (16 + j) 2) (12 + t) y)) σ3 0 (by omega) (by omega) k2 k3 (yPc_F hp hpp hf03.1 h5) ((hf03.1.2.1 _ _).trans h6) (by omega) (by rw [gg.2.2.2.1 s h7, h8]) ((hf03.1.1 _ _ (by omega) (by omega)).trans h9) ((hf03.1.1 _ _ (by omega) (by omega)).trans h10) (by omega) (Or.inl rfl)
      rw [if_neg (fun hh => absurd hh.1 (by decide))] at z2 z3
      exact ⟨σ', z1, z2, z3, yfF_t hf03 z4⟩
    · have ewf : ywf tg C (tg x) j (d + 1) = ywf tg C (tg x) (j + 1) d := by
        show (if yw1 tg C (tg x) j = true then _ else _) = _
        rw [if_neg hw]
      rw [ewf] at h11 ⊢
      rw [if_neg hw, if_pos y00, nI_1, yq_v]
      exact ih (j + 1) N W σ x4 (by omega) (by omega) h3 h4 h5 h6 h7 h8 h9 h10 h11 h12
/-- wake all -/
theorem yx_wa {s t x tt S : Nat} {y : Int32} {B Tt kd tg : Nat → Nat} {wy : Nat → Nat → Int32} {ex : Nat → List (Nat × Int32)} {C : Nat → Int32} {W : Nat × (Nat → Nat → Int32) × (Nat → Int32) × (Nat → Int32) × (Nat → Int32) × Nat × (Nat → Nat) × Bool} (hp : yPP p) (hF : 1700 < F) (hpp : yPp V L tt S B Tt kd tg wy ex) (ht : t < tt) (hx : x < 50) (hv : yRV tt B kd C) (htg : tg x < 34) (hy : yb8 y) (hs : s < W.1) (hC : W.2.1 s = C) (hK : W.2.2.2.2.2.1 < 3200) : ∀ d j N σ D, j + d = tt → d < N → yCx σ W D s → yPc σ p V L tt S B Tt kd tg wy ex → zs_r σ 138 1 = p → zs_i σ (p + 5 + x) 2 = nI (tg x) → zs_i σ (p + 5 + x) 7 = y → ∃ σ', zf_Explorer_wakeAll_3 F N (nI s) (nI t) (p + 5 + x) (nI j) σ = some σ' ∧ ycW σ' (ykp s (nI t) W (yU (ywa tg C (tg x) D j d) (12 + t) y)) ∧ zs_i σ' 16 (s + 1) = nI (ykp s (nI t) W (yU (ywa tg C (tg x) D j d) (12 + t) y)).2.2.2.2.2.1 ∧ yfF p s σ σ' := by
  have hp2 := yPP_b hp
  have ht4 : t < 4 := by have := hpp.1; omega
  have hb2 : yb8 2 := (yb8_n 2 (by decide)).1
  intro d
  induction d with
  | zero =>
    intro j N σ D h1 h2 h3 h5 h6 h9 h10
    obtain ⟨N, rfl⟩ : ∃ q, N = q + 1 := ⟨N - 1, by omega⟩
    have hj : j = tt := by omega
    rw [zf_Explorer_wakeAll_3, h6, zq_qr (by omega), yp_k hp, yq_g, h5.1.2.2.1, hj, if_pos (nI_le (Nat.le_refl _) (by have := hpp.1; omega)), yp_sk hp hx, yq_g, h10]
    obtain ⟨σ', f1, f2, f3, f4⟩ := yx_go (F := F) (y := y) hp h3 ht4 hy hs hK (by omega)
    rw [f1, yq_s]
    exact ⟨σ', rfl, f2, f3, f4⟩
  | succ d ih =>
    intro j N σ D h1 h2 h3 h5 h6 h9 h10
    obtain ⟨N, rfl⟩ : ∃ q, N = q + 1 := ⟨N - 1, by omega⟩
    have hjt : j < tt := by omega
    have hj4 : j < 4 := by have := hpp.1; omega
    have hvW : yRV tt B kd (W.2.1 s) := by rw [hC]; exact hv
    have hwt := yx_wf (F := F) (x := x) hp hpp h5 h3.1 h6 hs hjt hvW htg
    rw [hC] at hwt
    rw [zf_Explorer_wakeAll_3, h6, zq_qr (by omega), yp_k hp, yq_g, h5.1.2.2.1, if_neg (nI_ge hjt (by have := hpp.1; omega)), yp_sk hp hx, yq_g, h9, hwt, yq_c]
    unfold zf_Explorer_wakeAll_42
    by_cases hw : yw1 tg C (tg x) j = true
    · have ewa : ywa tg C (tg x) D j (d + 1) = ywa tg C (tg x) (yU D (16 + j) 2) (j + 1) d := by
        show ywa tg C (tg x) (if yw1 tg C (tg x) j = true then _ else _) (j + 1) d = _
        rw [if_pos hw]
      obtain ⟨σ2, g1, g2, g3⟩ := yx_set (F := F) (k := 16 + j) (x := 2) hp h3 (by omega) hb2
      rw [if_pos hw, if_neg y01, show (16 : Int32) + nI j = nI (16 + j) from nI_add 16 j, g1, yq_s, nI_1, yq_v, ewa]
      obtain ⟨σ', z1, z2, z3, z4⟩ := ih (j + 1) N σ2 (yU D (16 + j) 2) (by omega) (by omega) g2 (yPc_F hp hpp g3.1 h5) ((g3.1.2.1 _ _).trans h6) ((g3.1.1 _ _ (by omega) (by omega)).trans h9) ((g3.1.1 _ _ (by omega) (by omega)).trans h10)
      exact ⟨σ', z1, z2, z3, yfF_t g3 z4⟩
    · have ewa : ywa tg C (tg x) D j (d + 1) = ywa tg C (tg x) D (j + 1) d := by
        show ywa tg C (tg x) (if yw1 tg C (tg x) j = true then _ else _) (j + 1) d = _
        rw [if_neg hw]
      rw [if_neg hw, if_pos y00, nI_1, yq_v, ewa]
      exact ih (j + 1) N σ D (by omega) (by omega) h3 h5 h6 h9 h10
end YCT
