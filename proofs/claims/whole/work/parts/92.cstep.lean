/-! explorer: the class's small steps -/
section YCS
variable {F n m p q t V L T : Nat} {v : Nat → Nat}
/-- a row that can come -/
def yRV (tt : Nat) (B kd : Nat → Nat) (C : Nat → Int32) : Prop := (∀ k, k < 34 → yb8 (C k)) ∧ (∀ t, tt ≤ t → t < 4 → C (12 + t) = 0) ∧ (∀ t, t < tt → (C (12 + t) = -1 ∨ ∃ y, B t ≤ y ∧ y < B (t + 1) ∧ C (12 + t) = nI y)) ∧ (∀ t, t < tt → (C (16 + t) = 0 ∨ ((C (16 + t) = 1 ∨ C (16 + t) = 2) ∧ ∃ y, B t ≤ y ∧ y < B (t + 1) ∧ C (12 + t) = nI y ∧ kd y = 3))) ∧ (∀ l, l < 4 → (C (8 + l) = -1 ∨ ∃ t, t < 4 ∧ C (8 + l) = nI t)) ∧ (C 32 = 0 ∨ C 32 = 1 ∨ C 32 = 2)
def ypl (C : Nat → Int32) (t : Nat) : Nat := (C (12 + t)).toNatClampNeg
def yrd (kd tg : Nat → Nat) (C : Nat → Int32) (t : Nat) : Prop := ¬ C (12 + t) = -1 ∧ ¬ C (16 + t) = 1 ∧ ((C (16 + t) = 2 ∨ kd (ypl C t) = 1) → C (tg (ypl C t)) = -1)
/-- the class's store, with a row being built -/
def yCx (σ : zs_S) (W : Nat × (Nat → Nat → Int32) × (Nat → Int32) × (Nat → Int32) × (Nat → Int32) × Nat × (Nat → Nat) × Bool) (D : Nat → Int32) (s : Nat) : Prop := ycW σ W ∧ yXb σ W.1 D ∧ zs_i σ 16 (s + 1) = nI W.2.2.2.2.2.1
/-- what a step may change -/
def yfF (p s : Nat) (σ σ' : zs_S) : Prop := yfE p σ σ' ∧ ∀ k, k ≠ s + 1 → zs_i σ' 16 k = zs_i σ 16 k
theorem yfF_r (s : Nat) (σ : zs_S) : yfF p s σ σ := ⟨yfE_r σ, fun _ _ => rfl⟩
theorem yfF_t {s : Nat} {a b c : zs_S} (h : yfF p s a b) (g : yfF p s b c) : yfF p s a c := ⟨yfE_t h.1 g.1, fun k hk => (g.2 k hk).trans (h.2 k hk)⟩
theorem yb8_fits {x : Int32} (h : yb8 x) : fits (zd_ty 1) (.int x) = true := by
  obtain ⟨w, h1, h2⟩ := yby_of h
  have : ∀ a, a < 256 → fits (zd_ty 1) (.int (yby a)) = true := by decide +kernel
  rw [h2]
  exact this w h1
theorem yx_cell {s k : Nat} {W : Nat × (Nat → Nat → Int32) × (Nat → Int32) × (Nat → Int32) × (Nat → Int32) × Nat × (Nat → Nat) × Bool} {σ : zs_S} (h : ycW σ W) (hs : s < W.1) (hk : k < 34) : zf_States_cell F (nI s) (nI k) σ = some (W.2.1 s k, σ) := by
  have hZ := h.1.1.1.2
  unfold zf_States_cell
  rw [yn_34, nI_add, yn_b (show 34 * s + k < 27234 by omega) (by decide), yq_g, nI_clamp (by omega), h.1.1.2.1 s k hs hk]
/-- cells of the row being built don't count for what is kept -/
theorem ycW_b {W : Nat × (Nat → Nat → Int32) × (Nat → Int32) × (Nat → Int32) × (Nat → Int32) × Nat × (Nat → Nat) × Bool} {σ σ' : zs_S} (h : ycW σ W) (h1 : ∀ o k, ¬ (o = 11 ∧ 34 * W.1 ≤ k) → o ≠ p + 58 → zs_i σ' o k = zs_i σ o k) (hp : 20 ≤ p) : ycW σ' W := by
  obtain ⟨⟨⟨⟨a1, a2⟩, a3, a4, a5, a6, a7⟩, b1, b2, b3⟩, c⟩ := h
  exact ⟨⟨⟨⟨(h1 _ _ (by omega) (by omega)).trans a1, a2⟩, fun s k hs hk => (h1 _ _ (by omega) (by omega)).trans (a3 s k hs hk), a4, fun s hs => (h1 _ _ (by omega) (by omega)).trans (a5 s hs), fun b hb => (h1 _ _ (by omega) (by omega)).trans (a6 b hb), fun s hs => (h1 _ _ (by omega) (by omega)).trans (a7 s hs)⟩, fun s hs => ⟨(h1 _ _ (by omega) (by omega)).trans (b1 s hs).1, (h1 _ _ (by omega) (by omega)).trans (b1 s hs).2.1, (h1 _ _ (by omega) (by omega)).trans (b1 s hs).2.2⟩, (h1 _ _ (by omega) (by omega)).trans b2, fun j hj => (h1 _ _ (by omega) (by omega)).trans (b3 j hj)⟩, (h1 _ _ (by omega) (by omega)).trans c⟩
theorem yx_set {s k : Nat} {x : Int32} {W : Nat × (Nat → Nat → Int32) × (Nat → Int32) × (Nat → Int32) × (Nat → Int32) × Nat × (Nat → Nat) × Bool} {D : Nat → Int32} {σ : zs_S} (hp : yPP p) (h : yCx σ W D s) (hk : k < 34) (hx : yb8 x) : ∃ σ', zf_States_set F (nI k) x σ = some σ' ∧ yCx σ' W (yU D k x) s ∧ yfF p s σ σ' := by
  have hp2 := yPP_b hp
  obtain ⟨h1, h2, h3⟩ := h
  have hZ := h1.1.1.1.2
  have hx' : vp_nar .byte (x.toInt8.toInt32) = x := by
    have hx : x.toInt8.toInt32 = x := hx
    rw [hx, vp_nar_byte, hx]
  refine ⟨zs_wi σ 11 (34 * W.1 + k) x, ?_, ⟨ycW_b (p := p) h1 (fun o j w1 w2 => yt_in _ _ (by omega)) (by omega), fun j hj => ?_, (yt_in _ _ (by omega)).trans h3⟩, ⟨fun o j w1 w2 => yt_in _ _ (by omega), fun o j => rfl, fun o j => rfl⟩, fun j hj => yt_in _ _ (by omega)⟩
  · unfold zf_States_set
    rw [h1.1.1.1.1, yn_34, nI_add, yn_b (show 34 * W.1 + k < 27234 by omega) (by decide), yq_g, nI_clamp (by omega), hx', yq_v]
  · by_cases e : j = k
    · rw [e, yU_e, yt_ie]
    · rw [yU_n e, yt_in _ _ (by omega)]
      exact h2 j hj
theorem yx_copy {s : Nat} {W : Nat × (Nat → Nat → Int32) × (Nat → Int32) × (Nat → Int32) × (Nat → Int32) × Nat × (Nat → Nat) × Bool} {σ : zs_S} (hp : yPP p) (h : ycW σ W) (h16 : zs_i σ 16 (s + 1) = nI W.2.2.2.2.2.1) (hs : s < W.1) (hb : ∀ k, k < 34 → yb8 (W.2.1 s k)) : ∃ σ', zf_States_copy F (nI s) σ = some σ' ∧ yCx σ' W (W.2.1 s) s ∧ yfF p s σ σ' := by
  have hp2 := yPP_b hp
  have hZ := h.1.1.1.2
  have hr := h.1.1.2.1
  have hci : ∀ o k, ¬ (o = 11 ∧ 34 * W.1 ≤ k) → zs_i (zs_cp σ 11 11 (34 * s) (34 * W.1) 34) o k = zs_i σ o k := fun o k w => by
    rw [yt_ic]
    by_cases ho : o = 11
    · rw [if_pos ho, ho]
      unfold va_cpy
      rw [if_neg (by omega)]
    · rw [if_neg ho]
  have hcp : zq_cp 1 σ 11 (nI (34 * s)) (nI (34 * W.1)) 34 27234 27234 = true := by
    rw [show (34 : Int32) = nI 34 from rfl]
    unfold zq_cp
    rw [nI_clamp (by omega), nI_clamp (by omega), nI_clamp (by omega), decide_eq_true (nI_pos (by omega)), decide_eq_true (nI_pos (by omega)), decide_eq_true (nI_pos (by omega)), decide_eq_true (by omega), decide_eq_true (by omega)]
    simp only [Bool.true_and, List.all_eq_true, List.mem_range]
    intro i hi
    rw [hr s i hs hi]
    exact yb8_fits (hb i hi)
  refine ⟨zs_cp σ 11 11 (34 * s) (34 * W.1) 34, ?_, ⟨ycW_b (p := p) h (fun o j w1 _ => hci o j w1) (by omega), fun j hj => ?_, (hci _ _ (by omega)).trans h16⟩, ⟨fun o j w1 w2 => hci o j (by omega), fun o j => rfl, fun o j => rfl⟩, fun j hj => hci _ _ (by omega)⟩
  · unfold zf_States_copy
    rw [h.1.1.1.1, yn_34, yn_34, hcp, yq_g, nI_clamp (by omega), nI_clamp (by omega), show (34 : Int32).toNatClampNeg = 34 from by decide, yq_v]
  · rw [yt_ic, if_pos rfl]
    unfold va_cpy
    rw [if_pos (by omega), show 34 * s + (34 * W.1 + j - 34 * W.1) = 34 * s + j by omega]
    exact hr s j hs hj
theorem yx_keep {s : Nat} {x2 : Int32} {W : Nat × (Nat → Nat → Int32) × (Nat → Int32) × (Nat → Int32) × (Nat → Int32) × Nat × (Nat → Nat) × Bool} {D : Nat → Int32} {σ : zs_S} (h : yCx σ W D s) (hs : s < W.1) (hK : W.2.2.2.2.2.1 < 3200) (hF : 900 < F) : ∃ σ', zf_States_keep F (nI s) x2 σ = some σ' ∧ ycW σ' (ykp s x2 W D) ∧ zs_i σ' 16 (s + 1) = nI (ykp s x2 W D).2.2.2.2.2.1 ∧ yfF p s σ σ' := by
  obtain ⟨h1, h2, h3⟩ := h
  obtain ⟨σ', e1, e2, e3, e4, e5, e6⟩ := yc_keep (p := p) (F := F) (x2 := x2) h1 h2 hs hK hF h3
  exact ⟨σ', e1, e2, e3, e6, e4⟩
theorem yx_go {s t : Nat} {y : Int32} {W : Nat × (Nat → Nat → Int32) × (Nat → Int32) × (Nat → Int32) × (Nat → Int32) × Nat × (Nat → Nat) × Bool} {D : Nat → Int32} {σ : zs_S} (hp : yPP p) (h : yCx σ W D s) (ht : t < 4) (hy : yb8 y) (hs : s < W.1) (hK : W.2.2.2.2.2.1 < 3200) (hF : 900 < F) : ∃ σ', zf_Explorer_go F (nI s) (nI t) y σ = some σ' ∧ ycW σ' (ykp s (nI t) W (yU D (12 + t) y)) ∧ zs_i σ' 16 (s + 1) = nI (ykp s (nI t) W (yU D (12 + t) y)).2.2.2.2.2.1 ∧ yfF p s σ σ' := by
  obtain ⟨σ1, e1, e2, e3⟩ := yx_set (F := F) hp h (show 12 + t < 34 by omega) hy
  obtain ⟨σ2, f1, f2, f3, f4⟩ := yx_keep (p := p) (F := F) (x2 := nI t) e2 hs hK hF
  refine ⟨σ2, ?_, f2, f3, yfF_t e3 f4⟩
  unfold zf_Explorer_go
  rw [show (12 : Int32) + nI t = nI (12 + t) from nI_add 12 t, e1, yq_s, f1, yq_s]
theorem yx_err {s t : Nat} {x : Int32} {W : Nat × (Nat → Nat → Int32) × (Nat → Int32) × (Nat → Int32) × (Nat → Int32) × Nat × (Nat → Nat) × Bool} {D : Nat → Int32} {σ : zs_S} (hp : yPP p) (h : yCx σ W D s) (ht : t < 4) (hx : yb8 x) (hs : s < W.1) (hK : W.2.2.2.2.2.1 < 3200) (hF : 900 < F) : ∃ σ', zf_Explorer_err F (nI s) (nI t) x σ = some σ' ∧ ycW σ' (ykp s (nI t) W (yU (yU D 32 x) 33 (nI t))) ∧ zs_i σ' 16 (s + 1) = nI (ykp s (nI t) W (yU (yU D 32 x) 33 (nI t))).2.2.2.2.2.1 ∧ yfF p s σ σ' := by
  obtain ⟨σ1, e1, e2, e3⟩ := yx_set (F := F) (k := 32) hp h (by decide) hx
  obtain ⟨σ2, f1, f2, f3⟩ := yx_set (F := F) (k := 33) hp e2 (by decide) (yb8_n t (by omega)).1
  obtain ⟨σ3, g1, g2, g3, g4⟩ := yx_keep (p := p) (F := F) (x2 := nI t) f2 hs hK hF
  refine ⟨σ3, ?_, g2, g3, yfF_t e3 (yfF_t f3 g4)⟩
  have e1' : zf_States_set F 32 x σ = some σ1 := e1
  have f1' : zf_States_set F 33 (nI t) σ1 = some σ2 := f1
  unfold zf_Explorer_err
  rw [e1', yq_s, f1', yq_s, g1, yq_s]
theorem yx_next {s t x : Nat} {W : Nat × (Nat → Nat → Int32) × (Nat → Int32) × (Nat → Int32) × (Nat → Int32) × Nat × (Nat → Nat) × Bool} {σ : zs_S} (hp : yPP p) (h : ycW σ W) (h138 : zs_r σ 138 1 = p) (hs : s < W.1) (ht : t < 4) (hx : x < 50) (hpl : W.2.1 s (12 + t) = nI x) : zf_Explorer_nextOf F (nI s) (nI t) σ = some (p + 5 + x, σ) := by
  have hp2 := yPP_b hp
  unfold zf_Explorer_nextOf
  rw [h138, zq_qr (by omega), yp_k hp, yq_g, yp_r7 hp, zq_qr (by omega), show (12 : Int32) + nI t = nI (12 + t) from nI_add 12 t, yx_cell h hs (by omega), yq_c, hpl, yp_k4 hp, yq_g, yp_z4 hp, yn_b hx (by decide), yq_g, nI_clamp (by omega), yp_s hp hx, zq_qr (by omega)]
/-- ready, in the class -/
theorem yx_ready {s t tt S : Nat} {B Tt kd tg : Nat → Nat} {wy : Nat → Nat → Int32} {ex : Nat → List (Nat × Int32)} {W : Nat × (Nat → Nat → Int32) × (Nat → Int32) × (Nat → Int32) × (Nat → Int32) × Nat × (Nat → Nat) × Bool} {σ : zs_S} (hp : yPP p) (hpp : yPp V L tt S B Tt kd tg wy ex) (hpc : yPc σ p V L tt S B Tt kd tg wy ex) (h : ycW σ W) (h138 : zs_r σ 138 1 = p) (hs : s < W.1) (ht : t < tt) (hv : yRV tt B kd (W.2.1 s)) : ∃ b : Int32, zf_Explorer_isReady F (nI s) (nI t) σ = some (b, σ) ∧ ((b = 1 ∧ yrd kd tg (W.2.1 s) t) ∨ (b = 0 ∧ ¬ yrd kd tg (W.2.1 s) t)) := by
  have hp2 := yPP_b hp
  have ht4 : t < 4 := by have := hpp.1; omega
  obtain ⟨v1, v2, v3, v4, v5, v6⟩ := hv
  have c16 := yx_cell (F := F) h hs (show 16 + t < 34 by omega)
  have c12 := yx_cell (F := F) h hs (show 12 + t < 34 by omega)
  unfold zf_Explorer_isReady zf_Explorer_isReady_34
  rw [show (16 : Int32) + nI t = nI (16 + t) from nI_add 16 t, c16, yq_c, show (12 : Int32) + nI t = nI (12 + t) from nI_add 12 t, c12, yq_c]
  by_cases e1 : W.2.1 s (12 + t) = -1
  · rw [if_pos e1]
    exact ⟨0, rfl, Or.inr ⟨rfl, fun hh => hh.1 e1⟩⟩
  · rw [if_neg e1]
    by_cases e2 : W.2.1 s (16 + t) = 1
    · rw [if_pos e2]
      exact ⟨0, rfl, Or.inr ⟨rfl, fun hh => hh.2.1 e2⟩⟩
    · rw [if_neg e2]
      rcases v3 t ht with hh | ⟨x, x1, x2, x3⟩
      · exact absurd hh e1
      · have hx50 : x < 50 := by
          have := hpp.2.1.2.2.2 (t + 1) (by omega)
          have := hpp.1
          omega
        obtain ⟨q1, q2, q3, q4, q5⟩ := hpp.2.2.2 t x ht x1 x2
        obtain ⟨r1, r2, -⟩ := hpc.2.2 t x ht x1 x2
        have hpl : ypl (W.2.1 s) t = x := by
          unfold ypl
          rw [x3, nI_clamp (by omega)]
        rw [yx_next hp h h138 hs ht4 hx50 x3, yq_c]
        have c60 : (kd x = 3 ∨ kd x = 1) → ∃ b : Int32, zf_Explorer_isReady_60 F (nI s) (p + 5 + x) σ = some (b, σ) ∧ ((b = 1 ∧ W.2.1 s (tg x) = -1) ∨ (b = 0 ∧ ¬ W.2.1 s (tg x) = -1)) := by
          intro hk
          have htg := q3 (by omega)
          have hL := hpp.1
          unfold zf_Explorer_isReady_60 zf_Explorer_isReady_82
          rw [yp_sk hp hx50, yq_g, r2 (by omega), yx_cell h hs (show tg x < 34 by omega), yq_c]
          by_cases e3 : W.2.1 s (tg x) = -1
          · rw [if_pos e3, yz_1, yq_g]
            exact ⟨1, rfl, Or.inl ⟨rfl, e3⟩⟩
          · rw [if_neg e3, yz_0, yq_g]
            exact ⟨0, rfl, Or.inr ⟨rfl, e3⟩⟩
        by_cases e3 : W.2.1 s (16 + t) = 2
        · rw [if_pos e3]
          have hk3 : kd x = 3 := by
            rcases v4 t ht with hh | ⟨-, y, y1, y2, y3, y4⟩
            · rw [hh] at e3
              exact absurd e3 (by decide)
            · have : x = y := (nI_eq (by omega) (by have := hpp.2.1.2.2.2 (t + 1) (by omega); have := hpp.1; omega)).mp (x3.symm.trans y3)
              subst this
              exact y4
          obtain ⟨b, b1, b2⟩ := c60 (Or.inl hk3)
          refine ⟨b, b1, ?_⟩
          rcases b2 with ⟨b2, b3⟩ | ⟨b2, b3⟩
          · exact Or.inl ⟨b2, e1, e2, fun _ => by rw [hpl]; exact b3⟩
          · exact Or.inr ⟨b2, fun hh => b3 (by have := hh.2.2 (Or.inl e3); rw [hpl] at this; exact this)⟩
        · rw [if_neg e3, yp_sk hp hx50, yq_g, r1, zq_qr (by omega), yn_12 (by omega), yq_g]
          by_cases e4 : kd x = 1
          · rw [if_pos (by omega)]
            obtain ⟨b, b1, b2⟩ := c60 (Or.inr e4)
            refine ⟨b, b1, ?_⟩
            rcases b2 with ⟨b2, b3⟩ | ⟨b2, b3⟩
            · exact Or.inl ⟨b2, e1, e2, fun _ => by rw [hpl]; exact b3⟩
            · exact Or.inr ⟨b2, fun hh => b3 (by have := hh.2.2 (Or.inr (by rw [hpl]; exact e4)); rw [hpl] at this; exact this)⟩
          · rw [if_neg (by omega)]
            refine ⟨1, rfl, Or.inl ⟨rfl, e1, e2, fun hh => ?_⟩⟩
            rw [hpl] at hh
            rcases hh with hh | hh
            · exact absurd hh e3
            · exact absurd hh e4
end YCS
