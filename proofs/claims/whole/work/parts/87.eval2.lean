/-! explorer: the loops that reckon -/
section YEW
variable {F n m p q t V L T : Nat} {v : Nat → Nat}
theorem yn_s1 (h : Nat) : nI h - 1 + 1 = nI h := Int32.sub_add_cancel _ _
theorem yy_res {b c' : Nat} {C : Nat → Int32} (hp : yPP p) (hV : V ≤ 8 ∧ t < 4 ∧ T ≤ 3) (hc' : c' ≤ 1600) (hb : b + 34 ≤ 27234) : ∀ (l : List (Nat × Int32)) c N σ (st : List Int32), yCl σ p l c c' → yok l st.length 1 → st.length ≤ 150 → yStk (zs_i σ (p + 58)) st → (∀ g, g ∈ l → yEl t V T g) → (∀ k, k < 34 → zs_i σ 11 (b + k) = C k) → l.length < N → ∃ σ', zf_Code_result_6 F N (p + 55) (nI c') 11 (nI b) (nI st.length - 1) (nI c) σ = some ((l.foldl (ys1 C) st).headD 0, σ') ∧ (∀ o k, o ≠ p + 58 → zs_i σ' o k = zs_i σ o k) ∧ (∀ o k, zs_r σ' o k = zs_r σ o k) ∧ (∀ o k, zs_l σ' o k = zs_l σ o k) := by
  have hp2 := yPP_b hp
  have hk11 : zq_k 0 11 1 = true := by decide
  have hz11 : (zd_sh 0 11).2 = 27234 := by decide
  intro l
  induction l with
  | nil =>
    intro c N σ st h1 h2 hb150 h3 h4 h5 h6
    obtain ⟨N, rfl⟩ : ∃ q, N = q + 1 := ⟨N - 1, by have : ([] : List (Nat × Int32)).length = 0 := rfl; omega⟩
    have h1 : c = c' := h1
    have h2 : st.length = 1 := h2
    refine ⟨σ, ?_, fun _ _ _ => rfl, fun _ _ => rfl, fun _ _ => rfl⟩
    cases st with
    | nil => exact absurd h2 (by decide)
    | cons a r =>
      have hr : r.length = 0 := by
        rw [List.length_cons] at h2
        omega
      have h30 : zs_i σ (p + 58) 0 = a := by
        have := h3.1
        rw [hr] at this
        exact this
      rw [zf_Code_result_6, h1, if_pos (nI_le (Nat.le_refl _) (by omega)), yp_k55 hp, yq_g, yp_c2 hp, zq_qr (by omega), yp_k58 hp, yq_g, yp_z58 hp, show zq_b 0 150 = true from by decide, yq_g, show (0 : Int32).toNatClampNeg = 0 from by decide, h30]
      rfl
  | cons g l ih =>
    intro c N σ st h1 h2 hb150 h3 h4 h5 h6
    rw [List.length_cons] at h6
    obtain ⟨N, rfl⟩ : ∃ q, N = q + 1 := ⟨N - 1, by omega⟩
    obtain ⟨a1, a2, a3⟩ := h1
    have hcl := yCl_le a3
    have hg := h4 g List.mem_cons_self
    have hl4 : ∀ g', g' ∈ l → yEl t V T g' := fun g' hg' => h4 g' (List.mem_cons_of_mem _ hg')
    have hg1 : g.1 ≠ 0 ∧ g.1 < 1200 := by
      unfold yEl at hg
      omega
    -- one cell of the stack is written, then the rest
    have go : ∀ (k : Nat) (x : Int32) (st' : List Int32), st' = ys1 C st g → yok l st'.length 1 → (∃ r, st' = x :: r ∧ r.length = k ∧ yStk (zs_i σ (p + 58)) r) → k < 150 → ∃ σ', zf_Code_result_6 F N (p + 55) (nI c') 11 (nI b) (nI k) (nI (c + 1)) (zs_wi σ (p + 58) k x) = some ((l.foldl (ys1 C) st').headD 0, σ') ∧ (∀ o k, o ≠ p + 58 → zs_i σ' o k = zs_i σ o k) ∧ (∀ o k, zs_r σ' o k = zs_r σ o k) ∧ (∀ o k, zs_l σ' o k = zs_l σ o k) := by
      intro k x st' e1 e2 ⟨r, e3, e4, e5⟩ hk
      have hlen : nI k = nI st'.length - 1 := by
        rw [e3, List.length_cons, nI_pred, e4]
      have hstk : yStk (zs_i (zs_wi σ (p + 58) k x) (p + 58)) st' := by
        rw [e3]
        refine ⟨by rw [e4, yt_ie], yStk_F e5 (fun j hj => yt_in _ _ (by omega))⟩
      obtain ⟨σ', f1, f2, f3, f4⟩ := ih (c + 1) N (zs_wi σ (p + 58) k x) st' (yCl_F a3 (fun k k1 k2 => ⟨rfl, yt_in _ _ (by omega)⟩)) e2 (by rw [e3, List.length_cons]; omega) hstk hl4 (fun k hk => (yt_in _ _ (by omega)).trans (h5 k hk)) (by omega)
      refine ⟨σ', by rw [hlen, f1], fun o k ho => (f2 o k ho).trans (yt_in _ _ (by omega)), fun o k => f3 o k, fun o k => f4 o k⟩
    have hfold : (g :: l).foldl (ys1 C) st = l.foldl (ys1 C) (ys1 C st g) := rfl
    rw [hfold, zf_Code_result_6, if_neg (nI_ge (by omega) (by omega)), yp_k55 hp, yq_g, yp_c0 hp, zq_qr (by omega), yp_k56 hp, yq_g, yp_z56 hp, yn_b (show c < 1600 by omega) (by decide), yq_g, nI_clamp (by omega), a1, zq_qr hg1.1, yn_12 hg1.2, yq_g]
    rw [yok] at h2
    unfold zf_Code_result_111 zf_Code_result_176
    by_cases g3 : g.1 = 1003
    · rw [if_pos (Or.inl g3)] at h2
      rw [if_pos g3, yn_s1, yq_v, yp_c2 hp, zq_qr (by omega), yp_c1 hp, zq_qr (by omega), yp_k57 hp, yq_g, yp_z57 hp, yn_b (show c < 1600 by omega) (by decide), yq_g, yp_k58 hp, yq_g, yp_z58 hp, yn_b (show st.length < 150 by omega) (by decide), yq_g, nI_clamp (by omega), yq_v, nI_1, yq_v, a2]
      have e1 : ys1 C st g = g.2 :: st := if_pos g3
      exact go st.length g.2 (ys1 C st g) rfl (by rw [e1]; exact h2.2) ⟨st, e1, rfl, h3⟩ (by omega)
    · rw [if_neg g3, yq_g]
      by_cases g2 : g.1 = 1002
      · rw [if_pos (Or.inr g2)] at h2
        have hcell : ∃ k, k < 34 ∧ g.2 = nI k := by
          rcases hg with ⟨h7, -⟩ | ⟨-, k, k1, k2⟩ | ⟨-, k, k1, k2⟩ | h7
          · omega
          · exact ⟨k, by omega, k2⟩
          · exact ⟨20 + 3 * t + k, by omega, k2⟩
          · omega
        obtain ⟨k, hk, hgk⟩ := hcell
        have e1 : ys1 C st g = C k :: st := by
          unfold ys1
          rw [if_neg g3, if_pos g2, hgk, nI_clamp (by omega)]
        rw [if_pos g2, yn_s1, yq_v, yp_c2 hp, zq_qr (by omega), yp_c1 hp, zq_qr (by omega), yp_k57 hp, yq_g, yp_z57 hp, yn_b (show c < 1600 by omega) (by decide), yq_g, hk11, yq_g, a2, hgk, nI_add, hz11, yn_b (show b + k < 27234 by omega) (by decide), yq_g, yp_k58 hp, yq_g, yp_z58 hp, yn_b (show st.length < 150 by omega) (by decide), yq_g, nI_clamp (by omega), nI_clamp (by omega), h5 k hk, yq_v, nI_1, yq_v]
        exact go st.length (C k) (ys1 C st g) rfl (by rw [e1]; exact h2.2) ⟨st, e1, rfl, h3⟩ (by omega)
      · rw [if_neg (show ¬ (g.1 = 1003 ∨ g.1 = 1002) by omega)] at h2
        rw [if_neg g2, yq_g]
        by_cases g25 : g.1 = 1025
        · rw [if_pos (Or.inl g25)] at h2
          rw [if_pos g25]
          cases st with
          | nil => exact absurd h2.1 (by show ¬ 1 ≤ 0; decide)
          | cons a r =>
            have h31 : zs_i σ (p + 58) r.length = a := h3.1
            have e1 : ys1 C (a :: r) g = (if a = 0 then 1 else 0) :: r := by
              unfold ys1
              rw [if_neg g3, if_neg g2, if_pos g25]
            have hl2 : (a :: r).length = r.length + 1 := List.length_cons
            have hok : yok l (ys1 C (a :: r) g).length 1 := by
              rw [e1, List.length_cons, ← hl2]
              exact h2.2
            have hlr : r.length < 150 := by
              rw [hl2] at hb150
              omega
            rw [hl2, nI_pred, yp_c2 hp, zq_qr (by omega), zq_qr (by omega), yp_k58 hp, yq_g, yp_z58 hp, yn_b hlr (by decide), yq_g, nI_clamp (by omega), h31]
            by_cases ha : a = 0
            · rw [if_pos ha, yy_bit1, yq_c, yq_g, yq_g, yq_v, nI_1, yq_v]
              rw [if_pos ha] at e1
              exact go r.length 1 (ys1 C (a :: r) g) rfl hok ⟨r, e1, rfl, h3.2⟩ hlr
            · rw [if_neg ha, yy_bit0, yq_c, yq_g, yq_g, yq_v, nI_1, yq_v]
              rw [if_neg ha] at e1
              exact go r.length 0 (ys1 C (a :: r) g) rfl hok ⟨r, e1, rfl, h3.2⟩ hlr
        · rw [if_neg g25, yq_g]
          by_cases g04 : g.1 = 1004
          · rw [if_pos (Or.inr g04)] at h2
            rw [if_pos g04]
            cases st with
            | nil => exact absurd h2.1 (by show ¬ 1 ≤ 0; decide)
            | cons a r =>
              have h31 : zs_i σ (p + 58) r.length = a := h3.1
              have e1 : ys1 C (a :: r) g = (-a).toInt8.toInt32 :: r := by
                unfold ys1
                rw [if_neg g3, if_neg g2, if_neg g25, if_pos g04]
              have hl2 : (a :: r).length = r.length + 1 := List.length_cons
              have hok : yok l (ys1 C (a :: r) g).length 1 := by
                rw [e1, List.length_cons, ← hl2]
                exact h2.2
              have hlr : r.length < 150 := by
                rw [hl2] at hb150
                omega
              rw [hl2, nI_pred, yp_c2 hp, zq_qr (by omega), zq_qr (by omega), yp_k58 hp, yq_g, yp_z58 hp, yn_b hlr (by decide), yq_g, yq_g, yq_g, nI_clamp (by omega), h31, yq_v, nI_1, yq_v]
              exact go r.length _ (ys1 C (a :: r) g) rfl hok ⟨r, e1, rfl, h3.2⟩ hlr
          · rw [if_neg (show ¬ (g.1 = 1025 ∨ g.1 = 1004) by omega)] at h2
            rw [if_neg g04]
            have hop : 1026 ≤ g.1 ∧ g.1 ≤ 1036 := by
              unfold yEl at hg
              omega
            cases st with
            | nil => exact absurd h2.1 (by show ¬ 2 ≤ 0; decide)
            | cons bb r =>
              cases r with
              | nil => exact absurd h2.1 (by show ¬ 2 ≤ 1; decide)
              | cons a r =>
                have h31 : zs_i σ (p + 58) (r.length + 1) = bb := h3.1
                have h32 : zs_i σ (p + 58) r.length = a := h3.2.1
                have e1 : ys1 C (bb :: a :: r) g = yjn g.1 a bb :: r := by
                  unfold ys1
                  rw [if_neg g3, if_neg g2, if_neg g25, if_neg g04]
                have hl2 : (bb :: a :: r).length = r.length + 1 + 1 := rfl
                have hok : yok l (ys1 C (bb :: a :: r) g).length 1 := by
                  rw [e1, List.length_cons]
                  have := h2.2
                  rw [hl2, show r.length + 1 + 1 - 1 = r.length + 1 by omega] at this
                  exact this
                have hlr : r.length + 1 < 150 := by
                  rw [hl2] at hb150
                  omega
                rw [hl2, nI_pred, yn_p1, yq_v, yp_c2 hp, zq_qr (by omega), zq_qr (by omega), yp_k58 hp, yq_g, yp_z58 hp, yn_b (show r.length < 150 by omega) (by decide), yq_g, zq_qr (by omega), yp_k58 hp, yq_g, nI_1, yp_z58 hp, yn_b hlr (by decide), yq_g, nI_clamp (by omega), nI_clamp (by omega), h31, h32, yy_join hop.1 hop.2, yq_c, yq_g, yq_g, yq_v, nI_1, yq_v]
                exact go r.length _ (ys1 C (bb :: a :: r) g) rfl hok ⟨r, e1, rfl, h3.2.2⟩ (by omega)
/-- the reference's -/
theorem ym_rec {tt e' : Nat} {C : Nat → Int32} (hq : yQQ q) (hV : V ≤ 8 ∧ t < 4 ∧ T ≤ 3) (he' : e' ≤ 6400) : ∀ (l : List (Nat × Int32)) e N τ (st : List Int32), yRw τ q (l.flatMap (ysp t) ++ [16]) e e' → yok l st.length 1 → st.length ≤ 150 → yStk (zs_i τ 66) st → (∀ g, g ∈ l → yEl t V T g) → (∀ j, j < 34 → zs_i τ 64 j = yD tt C j) → zs_r τ 1 2 = q → l.length < N → ∃ τ', zf_M_reckon_5 F N (nI t) (nI st.length) (nI e) τ = some ((l.foldl (ys1 C) st).headD 0, τ') ∧ (∀ o k, o ≠ 66 → zs_i τ' o k = zs_i τ o k) ∧ (∀ o k, zs_r τ' o k = zs_r τ o k) ∧ (∀ o k, zs_l τ' o k = zs_l τ o k) := by
  have hq2 := yQQ_b hq
  intro l
  induction l with
  | nil =>
    intro e N τ st h1 h2 hb150 h3 h4 h5 hr h6
    obtain ⟨N, rfl⟩ : ∃ q, N = q + 1 := ⟨N - 1, by have : ([] : List (Nat × Int32)).length = 0 := rfl; omega⟩
    obtain ⟨a1, a2⟩ : zs_i τ (q + 14) e = 16 ∧ e + 1 = e' := h1
    have h2 : st.length = 1 := h2
    refine ⟨τ, ?_, fun _ _ _ => rfl, fun _ _ => rfl, fun _ _ => rfl⟩
    cases st with
    | nil => exact absurd h2 (by decide)
    | cons a r =>
      have hr0 : r.length = 0 := by
        rw [List.length_cons] at h2
        omega
      have h30 : zs_i τ 66 0 = a := by
        have := h3.1
        rw [hr0] at this
        exact this
      rw [zf_M_reckon_5, hr, zq_qr (by omega), yv_k hq, yq_g, yv_r11 hq, zq_qr (by omega), yv_k14 hq, yq_g, yv_z14 hq, yn_b (show e < 6400 by omega) (by decide), yq_g, nI_clamp (by omega), a1, if_pos rfl, show zq_b 0 166 = true from by decide, yq_g, show (0 : Int32).toNatClampNeg = 0 from by decide, h30]
      rfl
  | cons g l ih =>
    intro e N τ st h1 h2 hb150 h3 h4 h5 hr h6
    rw [List.length_cons] at h6
    obtain ⟨N, rfl⟩ : ∃ q, N = q + 1 := ⟨N - 1, by omega⟩
    have hg := h4 g List.mem_cons_self
    have hl4 : ∀ g', g' ∈ l → yEl t V T g' := fun g' hg' => h4 g' (List.mem_cons_of_mem _ hg')
    have hflat : (g :: l).flatMap (ysp t) ++ [16] = ysp t g ++ (l.flatMap (ysp t) ++ [16]) := by
      rw [List.flatMap_cons, List.append_assoc]
    rw [hflat] at h1
    have hle0 := yRw_le h1
    rw [List.length_append, List.length_append] at hle0
    have hl16 : ([16] : List Int32).length = 1 := rfl
    -- one cell of the stack is written, then the rest
    have go : ∀ (k : Nat) (x : Int32) (e1 : Nat) (st' : List Int32), st' = ys1 C st g → yRw τ q (l.flatMap (ysp t) ++ [16]) e1 e' → yok l st'.length 1 → (∃ r, st' = x :: r ∧ r.length = k ∧ yStk (zs_i τ 66) r) → k < 150 → ∃ τ', zf_M_reckon_5 F N (nI t) (nI (k + 1)) (nI e1) (zs_wi τ 66 k x) = some ((l.foldl (ys1 C) st').headD 0, τ') ∧ (∀ o k, o ≠ 66 → zs_i τ' o k = zs_i τ o k) ∧ (∀ o k, zs_r τ' o k = zs_r τ o k) ∧ (∀ o k, zs_l τ' o k = zs_l τ o k) := by
      intro k x e1 st' e2 e3 e4 ⟨r, e5, e6, e7⟩ hk
      have hlen : k + 1 = st'.length := by
        rw [e5, List.length_cons, e6]
      have hstk : yStk (zs_i (zs_wi τ 66 k x) 66) st' := by
        rw [e5]
        refine ⟨by rw [e6, yt_ie], yStk_F e7 (fun j hj => yt_in _ _ (by omega))⟩
      obtain ⟨τ', f1, f2, f3, f4⟩ := ih e1 N (zs_wi τ 66 k x) st' (yRw_F e3 (fun k k1 k2 => yt_in _ _ (by omega))) e4 (by omega) hstk hl4 (fun j hj => (yt_in _ _ (by omega)).trans (h5 j hj)) hr (by omega)
      refine ⟨τ', by rw [hlen, f1], fun o k ho => (f2 o k ho).trans (yt_in _ _ (by omega)), fun o k => f3 o k, fun o k => f4 o k⟩
    have hfold : (g :: l).foldl (ys1 C) st = l.foldl (ys1 C) (ys1 C st g) := rfl
    rw [hfold]
    rw [yok] at h2
    have pre : ∀ x, zs_i τ (q + 14) e = x → ¬ x = 16 → e < 6400 → zf_M_reckon_5 F (N + 1) (nI t) (nI st.length) (nI e) τ = if 2 < x then (if x = 6 then zf_M_reckon_117 F (zf_M_reckon_5 F N) (nI t) (nI st.length) (nI e) x τ else if x = 7 then zf_M_reckon_117 F (zf_M_reckon_5 F N) (nI t) (nI st.length) (nI e) x τ else zq_v (nI st.length + (-1)) fun v13 => zq_g (zq_b (v13 - 1) 166) <| zq_g (zq_b v13 166) <| zq_c (zf_M_together F x (zs_i τ 66 (v13 - 1).toNatClampNeg) (zs_i τ 66 (v13).toNatClampNeg) τ) fun r17 σ16 => zq_g (zq_b (v13 - 1) 166) <| zq_v (zs_wi σ16 66 ((v13 - 1).toNatClampNeg) r17) fun σ20 => zf_M_reckon_194 F (zf_M_reckon_5 F N) (nI t) v13 (nI e) σ20) else zq_g (zq_b (nI (e + 1)) 6400) <| zq_v (zs_i τ (q + 14) (nI (e + 1)).toNatClampNeg) fun v27 => if x = 0 then zf_M_reckon_96 F (zf_M_reckon_5 F N) (nI t) (nI st.length) (nI (e + 1)) v27 (nI st.length) τ else if x = 1 then zq_g (zq_b v27 34) <| zf_M_reckon_96 F (zf_M_reckon_5 F N) (nI t) (nI st.length) (nI (e + 1)) (zs_i τ 64 (v27).toNatClampNeg) (nI st.length) τ else zq_c (zf_M_each F (nI t) τ) fun r29 σ28 => zq_g (zq_b (r29 + v27) 34) <| zf_M_reckon_96 F (zf_M_reckon_5 F N) (nI t) (nI st.length) (nI (e + 1)) (zs_i σ28 64 (r29 + v27).toNatClampNeg) (nI st.length) σ28 := by
      intro x hx h16 he
      rw [zf_M_reckon_5, hr, zq_qr (by omega), yv_k hq, yq_g, yv_r11 hq, zq_qr (by omega), yv_k14 hq, yq_g, yv_z14 hq, yn_b he (by decide), yq_g, nI_clamp (by omega), hx, if_neg h16, zq_qr (by omega), yv_k hq, yq_g, yv_r11 hq, zq_qr (by omega), yv_k14 hq, yq_g, yv_z14 hq, yn_b he (by decide), yq_g]
      simp only [yq_v, hx, nI_1]
      rw [zq_qr (by omega), yv_k hq, yq_g, yv_r11 hq, zq_qr (by omega), yv_k14 hq, yq_g, yv_z14 hq]
    have e96 : ∀ x e1 k, k = st.length → k < 150 → zf_M_reckon_96 F (zf_M_reckon_5 F N) (nI t) (nI st.length) (nI e1) x (nI st.length) τ = zf_M_reckon_5 F N (nI t) (nI (k + 1)) (nI (e1 + 1)) (zs_wi τ 66 k x) := by
      intro x e1 k hk hk2
      unfold zf_M_reckon_96 zf_M_reckon_194
      rw [← hk, yn_b (show k < 166 by omega) (by decide), yq_g, nI_clamp (by omega), yq_v, nI_1, yq_v, nI_1, yq_v]
    by_cases g3 : g.1 = 1003
    · rw [if_pos (Or.inl g3)] at h2
      have es : ysp t g = [0, g.2] := if_pos g3
      rw [es] at h1 hle0
      obtain ⟨b1, b2, b3⟩ : zs_i τ (q + 14) e = 0 ∧ zs_i τ (q + 14) (e + 1) = g.2 ∧ yRw τ q (l.flatMap (ysp t) ++ [16]) (e + 1 + 1) e' := h1
      have hl2 : ([0, g.2] : List Int32).length = 2 := rfl
      have e1 : ys1 C st g = g.2 :: st := if_pos g3
      rw [pre 0 b1 (by decide) (by omega), if_neg (by decide), yn_b (show e + 1 < 6400 by omega) (by decide), yq_g, nI_clamp (by omega), b2, yq_v, if_pos rfl, e96 _ _ st.length rfl (by omega)]
      exact go st.length g.2 (e + 1 + 1) (ys1 C st g) rfl b3 (by rw [e1]; exact h2.2) ⟨st, e1, rfl, h3⟩ (by omega)
    · by_cases g2 : g.1 = 1002
      · rw [if_pos (Or.inr g2)] at h2
        rcases hg with ⟨h7, -⟩ | ⟨-, k, k1, k2⟩ | ⟨-, k, k1, k2⟩ | h7
        · omega
        · have h8 : g.2 < 8 := by
            rw [k2]
            exact nI_lt (b := 8) (by omega) (by omega)
          have es : ysp t g = [1, g.2] := by
            unfold ysp
            rw [if_neg g3, if_pos g2, if_pos h8]
          rw [es] at h1 hle0
          obtain ⟨b1, b2, b3⟩ : zs_i τ (q + 14) e = 1 ∧ zs_i τ (q + 14) (e + 1) = g.2 ∧ yRw τ q (l.flatMap (ysp t) ++ [16]) (e + 1 + 1) e' := h1
          have hl2 : ([1, g.2] : List Int32).length = 2 := rfl
          have e1 : ys1 C st g = C k :: st := by
            unfold ys1
            rw [if_neg g3, if_pos g2, k2, nI_clamp (by omega)]
          rw [pre 1 b1 (by decide) (by omega), if_neg (by decide), yn_b (show e + 1 < 6400 by omega) (by decide), yq_g, nI_clamp (by omega), b2, yq_v, if_neg (by decide), if_pos rfl, k2, yn_b (show k < 34 by omega) (by decide), yq_g, nI_clamp (by omega), h5 k (by omega), yD_v (by omega), e96 _ _ st.length rfl (by omega)]
          exact go st.length (C k) (e + 1 + 1) (ys1 C st g) rfl b3 (by rw [e1]; exact h2.2) ⟨st, e1, rfl, h3⟩ (by omega)
        · have h8 : ¬ g.2 < 8 := by
            rw [k2]
            exact nI_nlt (b := 8) (by omega) (by omega)
          have es : ysp t g = [2, nI k] := by
            unfold ysp
            rw [if_neg g3, if_pos g2, if_neg h8, k2, yn_sub (by omega), show 20 + 3 * t + k - (20 + 3 * t) = k by omega]
          rw [es] at h1 hle0
          obtain ⟨b1, b2, b3⟩ : zs_i τ (q + 14) e = 2 ∧ zs_i τ (q + 14) (e + 1) = nI k ∧ yRw τ q (l.flatMap (ysp t) ++ [16]) (e + 1 + 1) e' := h1
          have hl2 : ([2, nI k] : List Int32).length = 2 := rfl
          have e1 : ys1 C st g = C (20 + 3 * t + k) :: st := by
            unfold ys1
            rw [if_neg g3, if_pos g2, k2, nI_clamp (by omega)]
          have hea : (12 : Int32) + 5 * nI t + nI k = nI (12 + 5 * t + k) := by
            rw [show (5 : Int32) * nI t = nI (5 * t) from yn_mul 5 t, show (12 : Int32) = nI 12 from rfl, nI_add, nI_add]
          rw [pre 2 b1 (by decide) (by omega), if_neg (by decide), yn_b (show e + 1 < 6400 by omega) (by decide), yq_g, nI_clamp (by omega), b2, yq_v, if_neg (by decide), if_neg (by decide)]
          unfold zf_M_each
          rw [yq_c, hea, yn_b (show 12 + 5 * t + k < 34 by omega) (by decide), yq_g, nI_clamp (by omega), h5 _ (by omega), yD_lo hV.2.1 (by omega), e96 _ _ st.length rfl (by omega)]
          exact go st.length _ (e + 1 + 1) (ys1 C st g) rfl b3 (by rw [e1]; exact h2.2) ⟨st, e1, rfl, h3⟩ (by omega)
        · omega
      · rw [if_neg (show ¬ (g.1 = 1003 ∨ g.1 = 1002) by omega)] at h2
        have es : ysp t g = [yop g.1] := by
          unfold ysp
          rw [if_neg g3, if_neg g2]
        rw [es] at h1 hle0
        obtain ⟨b1, b3⟩ : zs_i τ (q + 14) e = yop g.1 ∧ yRw τ q (l.flatMap (ysp t) ++ [16]) (e + 1) e' := h1
        have hl2 : ([yop g.1] : List Int32).length = 1 := rfl
        have hgop : (g.1 = 1025 ∨ g.1 = 1004) ∨ (1026 ≤ g.1 ∧ g.1 ≤ 1036) := by
          unfold yEl at hg
          omega
        have e160 : ∀ x k, k < 150 → zf_M_reckon_160 F (zf_M_reckon_5 F N) (nI t) (nI st.length) (nI e) x (nI k) τ = zf_M_reckon_5 F N (nI t) (nI st.length) (nI (e + 1)) (zs_wi τ 66 k x) := by
          intro x k hk
          unfold zf_M_reckon_160 zf_M_reckon_194
          rw [yn_b (show k < 166 by omega) (by decide), yq_g, nI_clamp (by omega), yq_v, nI_1, yq_v]
        rcases hgop with hgop | hgop
        · rw [if_pos hgop] at h2
          cases st with
          | nil => exact absurd h2.1 (by show ¬ 1 ≤ 0; decide)
          | cons a r =>
            have h31 : zs_i τ 66 r.length = a := h3.1
            have hls : (a :: r).length = r.length + 1 := List.length_cons
            have hlr : r.length < 150 := by
              rw [hls] at hb150
              omega
            rcases hgop with g25 | g04
            · have e1 : ys1 C (a :: r) g = (if a = 0 then 1 else 0) :: r := by
                unfold ys1
                rw [if_neg g3, if_neg g2, if_pos g25]
              have hok : yok l (ys1 C (a :: r) g).length 1 := by
                rw [e1, List.length_cons, ← hls]
                exact h2.2
              rw [g25, yo_1025] at b1
              rw [pre 7 b1 (by decide) (by omega), if_pos (by decide), if_neg (by decide), if_pos rfl]
              unfold zf_M_reckon_117
              rw [if_neg (by decide), hls, nI_pred, yn_b (show r.length < 166 by omega) (by decide), yq_g, nI_clamp (by omega), h31, ← hls, e160 _ _ hlr, e160 _ _ hlr, hls]
              by_cases ha : a = 0
              · rw [if_pos ha]
                rw [if_pos ha] at e1
                exact go r.length 1 (e + 1) (ys1 C (a :: r) g) rfl b3 hok ⟨r, e1, rfl, h3.2⟩ hlr
              · rw [if_neg ha]
                rw [if_neg ha] at e1
                exact go r.length 0 (e + 1) (ys1 C (a :: r) g) rfl b3 hok ⟨r, e1, rfl, h3.2⟩ hlr
            · have e1 : ys1 C (a :: r) g = (-a).toInt8.toInt32 :: r := by
                unfold ys1
                rw [if_neg g3, if_neg g2, if_neg (by omega), if_pos g04]
              have hok : yok l (ys1 C (a :: r) g).length 1 := by
                rw [e1, List.length_cons, ← hls]
                exact h2.2
              rw [g04, yo_1004] at b1
              rw [pre 6 b1 (by decide) (by omega), if_pos (by decide), if_pos rfl]
              unfold zf_M_reckon_117
              rw [if_pos rfl, hls, nI_pred, yn_b (show r.length < 166 by omega) (by decide), yq_g, nI_clamp (by omega), h31, ← hls, e160 _ _ hlr, hls]
              exact go r.length _ (e + 1) (ys1 C (a :: r) g) rfl b3 hok ⟨r, e1, rfl, h3.2⟩ hlr
        · rw [if_neg (show ¬ (g.1 = 1025 ∨ g.1 = 1004) by omega)] at h2
          cases st with
          | nil => exact absurd h2.1 (by show ¬ 2 ≤ 0; decide)
          | cons bb r =>
            cases r with
            | nil => exact absurd h2.1 (by show ¬ 2 ≤ 1; decide)
            | cons a r =>
              have h31 : zs_i τ 66 (r.length + 1) = bb := h3.1
              have h32 : zs_i τ 66 r.length = a := h3.2.1
              have e1 : ys1 C (bb :: a :: r) g = yjn g.1 a bb :: r := by
                unfold ys1
                rw [if_neg g3, if_neg g2, if_neg (by omega), if_neg (by omega)]
              have hls : (bb :: a :: r).length = r.length + 1 + 1 := rfl
              have hok : yok l (ys1 C (bb :: a :: r) g).length 1 := by
                rw [e1, List.length_cons]
                have := h2.2
                rw [hls, show r.length + 1 + 1 - 1 = r.length + 1 by omega] at this
                exact this
              have hlr : r.length + 1 < 150 := by
                rw [hls] at hb150
                omega
              have hopv : ∀ x, x < 37 → 26 ≤ x → (2 : Int32) < yop (1000 + x) ∧ ¬ yop (1000 + x) = 6 ∧ ¬ yop (1000 + x) = 7 ∧ ¬ yop (1000 + x) = 16 := by decide +kernel
              have hov := hopv (g.1 - 1000) (by omega) (by omega)
              rw [show 1000 + (g.1 - 1000) = g.1 by omega] at hov
              rw [pre (yop g.1) b1 hov.2.2.2 (by omega), if_pos hov.1, if_neg hov.2.1, if_neg hov.2.2.1, hls, yn_p1, yq_v, nI_pred, yn_b (show r.length < 166 by omega) (by decide), yq_g, yn_b (show r.length + 1 < 166 by omega) (by decide), yq_g, nI_clamp (by omega), nI_clamp (by omega), h31, h32, ym_tog hgop.1 hgop.2, yq_c, yq_g, yq_v]
              unfold zf_M_reckon_194
              rw [nI_1, yq_v]
              exact go r.length _ (e + 1) (ys1 C (bb :: a :: r) g) rfl b3 hok ⟨r, e1, rfl, h3.2.2⟩ (by omega)
end YEW
