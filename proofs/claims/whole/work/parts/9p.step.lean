/-! every call keeps what holds between calls -/
section YSP
variable {F : Nat} {a b c d e : Int32}
theorem yIv_Q {σ τ σ' τ' : zs_S} (h1 : ∀ o k, o ≠ 139 → zs_i σ' o k = zs_i σ o k) (h2 : ∀ o k, zs_r σ' o k = zs_r σ o k) (h3 : ∀ o k, o ≠ 64 → o ≠ 67 → zs_i τ' o k = zs_i τ o k) (h4 : ∀ o k, zs_r τ' o k = zs_r τ o k) (h : yIv σ τ) : yIv σ' τ' := by
  obtain ⟨n, v, p, p', q, q', ht1, ht2, ⟨hn1, hn2⟩, hpp, hqq, ⟨hr6, hr7, hr2, hr3⟩, hin⟩ := h
  have hp := yIp hpp
  have hq := yIq hqq
  have hp1 : p = 20 ∨ p = 79 := hp
  have hq1 : q = 3 ∨ q = 30 := hq
  refine ⟨n, v, p, p', q, q', ⟨ht1.1, fun j hj => ?_⟩, ⟨ht2.1, fun j hj => ?_⟩, ⟨(h1 _ _ (by omega)).trans hn1, (h3 _ _ (by omega) (by omega)).trans hn2⟩, hpp, hqq, ⟨(h2 _ _).trans hr6, (h2 _ _).trans hr7, (h4 _ _).trans hr2, (h4 _ _).trans hr3⟩, yEF hp hq (fun o k w => h1 o k (by omega)) h2 (fun o k w => h3 o k (by omega) (by omega)) hin⟩
  · rw [h1 _ _ (by omega)]
    exact ht1.2 j hj
  · rw [h3 _ _ (by omega) (by omega)]
    exact ht2.2 j hj
/-- an answer alike, and what holds between calls -/
def yIa (x y : Option (Int32 × zs_S)) : Prop := ∃ (r : Int32) (σ' τ' : zs_S), x = some (r, σ') ∧ y = some (r, τ') ∧ yIv σ' τ'
theorem yIa_q {x y : Option (Int32 × zs_S)} {σ τ : zs_S} (h : yIv σ τ) (g : yAq x y σ τ) : yIa x y := by
  obtain ⟨r, τ', g1, g2, g3, g4⟩ := g
  exact ⟨r, σ, τ', g1, g2, yIv_Q (fun _ _ _ => rfl) (fun _ _ => rfl) (fun o k w _ => g3 o k w) g4 h⟩
theorem yIa_c {x y : Option (Int32 × zs_S)} {σ τ : zs_S} (h : yIv σ τ) (he : ∀ p, yPP p → zs_r σ 1 6 = p → yEm σ τ p → yAn x y σ τ) (hf : ∀ p q V L tt S B Tt kd tg wy ex W fn, yQx σ τ p q V L tt S B Tt kd tg wy ex W fn → yAq x y σ τ) : yIa x y := by
  have hI := h
  obtain ⟨n, v, p, p', q, q', ht1, ht2, hn, hpp, hqq, ⟨hr6, hr7, hr2, hr3⟩, hin⟩ := h
  rcases hin with hin | ⟨V, L, tt, S, B, Tt, kd, tg, wy, ex, W, fn, hx⟩
  · exact yIa_q hI (yAq_n (he p (yIp hpp) hr6 hin))
  · exact yIa_q hI (hf p q V L tt S B Tt kd tg wy ex W fn ⟨yIp hpp, yIq hqq, hr6, hr2, hx⟩)
/-! calls while nothing is there -/
theorem ye_hv {p : Nat} {x : Int32} {σ : zs_S} (hp : yPP p) (h : zs_i σ p 0 = 0) : zf_Program_hasVariable F p x σ = some (0, σ) := by
  unfold zf_Program_hasVariable zf_Program_hasVariable_16 zf_Program_hasVariable_17
  by_cases h1 : x < 0
  · rw [if_pos h1, yz_0, yq_g]
  · rw [if_neg h1, yp_k hp, yq_g, if_pos (by rw [h]; exact Int32.not_lt.mp h1), yz_0, yq_g]
theorem ye_cs {x : Int32} {σ : zs_S} (h : zs_i σ 10 9 = 0) : zf_S_countSort (F + 1) x σ = some (0, σ) := by
  unfold zf_S_countSort
  rw [zf_S_countSort_4, if_pos (by rw [h]; decide)]
theorem ye_pr {σ : zs_S} (h : zs_i σ 10 9 = 0) : zf_States_pairs (F + 1) σ = some (0, σ) := by
  unfold zf_States_pairs
  rw [zf_States_pairs_4, if_pos (by rw [h]; decide)]
theorem ye_ct {σ τ : zs_S} {p i : Nat} (hi : i < 9) (hp : yPP p) (hr : zs_r σ 1 6 = p) (h : yEm σ τ p) : zf_S_count (F + 1) (nI i) σ = some (0, σ) := by
  have hp1 : p ≠ 0 := by
    have := yPP_b hp
    omega
  obtain ⟨h1, ⟨h2, h3, h4, h5⟩, -, -⟩ := h
  unfold zf_S_count
  by_cases c0 : nI i = 0
  · rw [if_pos c0, h1]
  rw [if_neg c0]
  by_cases c1 : nI i = 1
  · rw [if_pos c1, ye_pr h1, yq_c]
  rw [if_neg c1]
  by_cases c2 : nI i = 2
  · rw [if_pos c2, ye_cs h1, yq_c]
  rw [if_neg c2]
  by_cases c3 : nI i = 3
  · rw [if_pos c3, ye_cs h1, yq_c]
  rw [if_neg c3]
  by_cases c4 : nI i = 4
  · rw [if_pos c4, ye_cs h1, yq_c]
  rw [if_neg c4]
  by_cases c5 : nI i = 5
  · rw [if_pos c5, hr, zq_qr hp1, yp_k hp, yq_g, h4]
  rw [if_neg c5]
  by_cases c6 : nI i = 6
  · rw [if_pos c6, hr, zq_qr hp1, yp_k hp, yq_g, h2]
  rw [if_neg c6]
  by_cases c7 : nI i = 7
  · rw [if_pos c7, hr, zq_qr hp1, yp_k hp, yq_g, h3]
  rw [if_neg c7]
  by_cases c8 : nI i = 8
  · rw [if_pos c8, hr, zq_qr hp1, yp_k hp, yq_g, h5]
  exfalso
  have hh : i = 0 ∨ i = 1 ∨ i = 2 ∨ i = 3 ∨ i = 4 ∨ i = 5 ∨ i = 6 ∨ i = 7 ∨ i = 8 := by omega
  rcases hh with e | e | e | e | e | e | e | e | e
  · exact c0 (by rw [e]; decide)
  · exact c1 (by rw [e]; decide)
  · exact c2 (by rw [e]; decide)
  · exact c3 (by rw [e]; decide)
  · exact c4 (by rw [e]; decide)
  · exact c5 (by rw [e]; decide)
  · exact c6 (by rw [e]; decide)
  · exact c7 (by rw [e]; decide)
  · exact c8 (by rw [e]; decide)
theorem ye_count {σ τ : zs_S} {p : Nat} (hp : yPP p) (hr : zs_r σ 1 6 = p) (h : yEm σ τ p) : yAn (zf_S_count (F + 1) a σ) (zf_M_count (F + 1) a τ) σ τ := by
  have g2 := zp_M_count (F := F + 1) (a := a) h.2.2.2
  by_cases h1 : a < 0
  · rw [if_pos h1] at g2
    exact ⟨_, zp_S_cd (fun i hi e => nI_pos (n := i) (by omega) (e ▸ h1)), g2⟩
  · rw [if_neg h1] at g2
    by_cases h2 : 8 < a
    · rw [if_pos h2] at g2
      refine ⟨_, zp_S_cd (fun i hi e => ?_), g2⟩
      rw [e, show (8 : Int32) = nI 8 by decide] at h2
      exact nI_nlt (by omega) (by omega) h2
    · rw [if_neg h2] at g2
      obtain ⟨i, hi, e⟩ := zp_c9 h1 h2
      refine ⟨0, ?_, g2⟩
      rw [e]
      exact ye_ct hi hp hr h
theorem ye_outcome {σ τ : zs_S} {p : Nat} (hp : yPP p) (hr : zs_r σ 1 6 = p) (h : yEm σ τ p) : yAn (zf_S_outcome F a b σ) (zf_M_outcome F a b τ) σ τ := by
  have hp1 : p ≠ 0 := by
    have := yPP_b hp
    omega
  refine ⟨1000, ?_, zp_M_outcome h.2.2.2⟩
  unfold zf_S_outcome
  rw [hr, zq_qr hp1, yp_k hp, yq_g, ye_hv hp h.2.1.1, yq_c, if_pos rfl]
theorem ye_race {σ τ : zs_S} {p : Nat} (hp : yPP p) (hr : zs_r σ 1 6 = p) (h : yEm σ τ p) : yAn (zf_S_race F a σ) (zf_M_race F a τ) σ τ := by
  have hp1 : p ≠ 0 := by
    have := yPP_b hp
    omega
  refine ⟨-2, ?_, zp_M_race h.2.2.2⟩
  unfold zf_S_race
  rw [hr, zq_qr hp1, yp_k hp, yq_g, ye_hv hp h.2.1.1, yq_c, if_pos rfl]
/-! all calls -/
theorem yy_outcome {σ τ : zs_S} (hF : 7000 < F) (h : yIv σ τ) : yIa (zf_S_outcome F a b σ) (zf_M_outcome F a b τ) := by
  have hI := h
  obtain ⟨n, v, p, p', q, q', ht1, ht2, hn, hpp, hqq, ⟨hr6, hr7, hr2, hr3⟩, hin⟩ := h
  rcases hin with hin | ⟨V, L, tt, S, B, Tt, kd, tg, wy, ex, W, fn, hx⟩
  · exact yIa_q hI (yAq_n (ye_outcome (yIp hpp) hr6 hin))
  · obtain ⟨r, σ', τ', g1, g2, ⟨g3, g4⟩, g5, g6⟩ := yq_outcome (a := a) (b := b) hF ⟨yIp hpp, yIq hqq, hr6, hr2, hx⟩
    exact ⟨r, σ', τ', g1, g2, yIv_Q g3 g4 g5 g6 hI⟩
theorem yy_calls (hF : 7000 < F) : zl_step F 512 (fun _ σ τ => yIv σ τ) := by
  obtain ⟨f, rfl⟩ : ∃ f, F = f + 1 := ⟨F - 1, by omega⟩
  intro k σ τ _ hI
  have hI : yIv σ τ := hI
  refine ⟨fun a1 a2 a3 a4 a5 => yy_feed (by omega) hI, fun a1 => yy_end hI, yy_check hF hI, fun a1 => ?_, fun a1 => ?_, fun a1 a2 => ?_, fun a1 a2 => ?_, fun a1 a2 a3 => ?_, fun a1 a2 => ?_, fun a1 a2 => ?_, fun a1 a2 => ?_, fun a1 a2 => ?_, fun a1 a2 => yy_outcome hF hI, fun a1 => ?_, hI⟩
  · exact yIa_c hI (fun p hp hr he => ye_count hp hr he) (fun _ _ _ _ _ _ _ _ _ _ _ _ _ _ hx => yq_count hF hx)
  · exact yIa_c hI (fun p hp hr he => ⟨_, zp_S_first he.1, zp_M_first he.2.2.1⟩) (fun _ _ _ _ _ _ _ _ _ _ _ _ _ _ hx => yq_first hF hx)
  · exact yIa_c hI (fun p hp hr he => ⟨_, zp_S_look he.1, zp_M_look he.2.2.1⟩) (fun _ _ _ _ _ _ _ _ _ _ _ _ _ _ hx => yAq_n (yq_look hx))
  · exact yIa_c hI (fun p hp hr he => ⟨_, zp_S_value he.1, zp_M_value he.2.2.1⟩) (fun _ _ _ _ _ _ _ _ _ _ _ _ _ _ hx => yAq_n (yq_value hx))
  · exact yIa_c hI (fun p hp hr he => ⟨_, zp_S_local he.1, zp_M_local he.2.2.1⟩) (fun _ _ _ _ _ _ _ _ _ _ _ _ _ _ hx => yAq_n (yq_local hx))
  · exact yIa_c hI (fun p hp hr he => ⟨_, zp_S_place he.1, zp_M_place he.2.2.1⟩) (fun _ _ _ _ _ _ _ _ _ _ _ _ _ _ hx => yAq_n (yq_place hx))
  · exact yIa_c hI (fun p hp hr he => ⟨_, zp_S_owner he.1, zp_M_owner he.2.2.1⟩) (fun _ _ _ _ _ _ _ _ _ _ _ _ _ _ hx => yAq_n (yq_owner hx))
  · exact yIa_c hI (fun p hp hr he => ⟨_, zp_S_waits he.1, zp_M_waits he.2.2.1⟩) (fun _ _ _ _ _ _ _ _ _ _ _ _ _ _ hx => yAq_n (yq_waits hx))
  · exact yIa_c hI (fun p hp hr he => ⟨_, zp_S_next he.1, zp_M_next he.2.2.1⟩) (fun _ _ _ _ _ _ _ _ _ _ _ _ _ _ hx => yAq_n (yq_next hx))
  · exact yIa_c hI (fun p hp hr he => ye_race hp hr he) (fun _ _ _ _ _ _ _ _ _ _ _ _ _ _ hx => yq_race hF hx)
/-! the made stores -/
theorem zp_r7 : zs_r zp_s 1 7 = 79 := by decide +kernel
theorem zp_m2 : zs_r zp_m 1 2 = 3 := by decide +kernel
theorem zp_m3 : zs_r zp_m 1 3 = 30 := by decide +kernel
theorem yIv_0 : yIv zp_s zp_m := yIv_i (zp_si 1 1) (zp_mi 1 1) (Or.inl ⟨rfl, rfl⟩) (Or.inl ⟨rfl, rfl⟩) ⟨zp_r6, zp_r7, zp_m2, zp_m3⟩ (Or.inl ⟨zp_si 10 9, ⟨zp_si _ _, zp_si _ _, zp_si _ _, zp_si _ _⟩, zp_mi 1 23, zp_mi 1 4⟩)
end YSP
