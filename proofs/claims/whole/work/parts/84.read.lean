/-! the parser: the whole -/
section YRD
variable {F n m p q t V L T : Nat} {v : Nat → Nat}
/-- a program, both sides -/
def yPQ (σ τ : zs_S) (p q V L tt S c e : Nat) (B Tt : Nat → Nat) : Prop := (V ≤ 8 ∧ L ≤ 4 ∧ 1 ≤ tt ∧ tt ≤ 4 ∧ S ≤ 50) ∧ (zs_i σ p 0 = nI V ∧ zs_i σ p 1 = nI L ∧ zs_i σ p 2 = nI tt ∧ zs_i σ p 3 = nI S) ∧ (zs_i τ (q + 1) 2 = nI V ∧ zs_i τ (q + 4) 2 = nI L ∧ zs_i τ q 5 = nI tt ∧ zs_i τ q 6 = nI S) ∧ (∀ x, x < V → zs_i σ (p + 1) x = zs_i τ (q + 8) x ∧ yb8 (zs_i τ (q + 8) x)) ∧ (B 0 = 0 ∧ B tt = S ∧ ∀ t, t < tt → B t ≤ B (t + 1)) ∧ (∀ t, t < tt → Tt t ≤ 3 ∧ zs_i σ (p + 2) t = nI (Tt t) ∧ zs_i τ (q + 15 + 3 * t) 2 = nI (Tt t) ∧ zs_i σ (p + 3) t = zs_i τ (q + 9) t ∧ ((B t = B (t + 1) ∧ zs_i σ (p + 3) t = -1) ∨ (B t < B (t + 1) ∧ zs_i σ (p + 3) t = nI (B t))) ∧ (∀ x, B t ≤ x → x < B (t + 1) → yST σ τ p q t V L (Tt t) c e x ∧ ∀ w, w < 3 → yVl (zs_r σ (p + 5 + x) 0) w → zs_i σ (p + 5 + x) (ywc w) = zs_i τ (q + 13) (3 * x + w) ∧ (zs_i τ (q + 13) (3 * x + w) = -1 ∨ ∃ y, B t ≤ y ∧ y < B (t + 1) ∧ zs_i τ (q + 13) (3 * x + w) = nI y)))
def yPR (σ τ : zs_S) (p q : Nat) : Prop := ∃ V L tt S c e B Tt, yPQ σ τ p q V L tt S c e B Tt
theorem yST_k {x c e : Nat} {σ τ : zs_S} (h : yST σ τ p q t V L T c e x) : zs_r σ (p + 5 + x) 0 ≠ 0 ∧ zs_r σ (p + 5 + x) 0 < 1200 := by
  obtain ⟨k, h1, h2, -⟩ := h
  omega
theorem yTh_own {tt i s a c e : Nat} {B Tt : Nat → Nat} {σ τ : zs_S} (h : yTh F v n m p q V L tt B Tt i s a c e σ τ) : ∀ d t x, tt - t ≤ d → t ≤ tt → B t ≤ x → x < s → ∃ t', t ≤ t' ∧ t' < tt ∧ B t' ≤ x ∧ x < B (t' + 1) := by
  have hb : B tt = s := h.2.2.2.2.2.2.2.2.2.2.2.1.2.1
  intro d
  induction d with
  | zero =>
    intro t x h1 h2 h3 h4
    have : t = tt := by omega
    subst this
    omega
  | succ d ih =>
    intro t x h1 h2 h3 h4
    by_cases h5 : t = tt
    · subst h5
      omega
    · by_cases h6 : x < B (t + 1)
      · exact ⟨t, Nat.le_refl t, by omega, h3, h6⟩
      · obtain ⟨t', g1, g2, g3, g4⟩ := ih (t + 1) x (by omega) (by omega) (by omega) h4
        exact ⟨t', by omega, g2, g3, g4⟩
/-- the end: the ways are settled -/
theorem yy_fin {tt i s a c e : Nat} {B Tt : Nat → Nat} {σ τ : zs_S} (h : yTh F v n m p q V L tt B Tt i s a c e σ τ) (ht : 1 ≤ tt) : ∃ σ', zf_Program_settleWays F p σ = some σ' ∧ yPR σ' τ p q ∧ ygC p σ σ' ∧ zs_i σ' 7 8 = zs_i σ 7 8 := by
  have h00 := h
  obtain ⟨⟨hB, hp, hq, hF⟩, hP, hM, ⟨h6, h7, h8⟩, ⟨h9, h9b, h9c⟩, ⟨h10, h10b⟩, ⟨h11, h11b⟩, ⟨hv0, hv1, h73⟩, ⟨C, K, kv, kl, hS⟩, ⟨ht0, ht1, ht2⟩, hval, ⟨hB0, hB1, hB2⟩, hthr⟩ := h
  have hp2 := yPP_b hp
  have hq2 := yQQ_b hq
  have own : ∀ x, x < s → ∃ t, t < tt ∧ B t ≤ x ∧ x < B (t + 1) := by
    intro x hx
    obtain ⟨t', -, g2, g3, g4⟩ := yTh_own h00 tt 0 x (by omega) (by omega) (by omega) hx
    exact ⟨t', g2, g3, g4⟩
  have hD : ∀ x, 0 ≤ x → x < s → zs_i σ (p + 5 + x) 1 = -1 ∨ ∃ y, 0 ≤ y ∧ y < x ∧ zs_i σ (p + 5 + x) 1 = nI y := by
    intro x _ hx
    obtain ⟨t', g2, g3, g4⟩ := own x hx
    rcases ((hthr t' g2).2.2.2.2.2.1 x g3 g4).2.1 with d1 | ⟨y, y1, y2, y3⟩
    · exact Or.inl d1
    · exact Or.inr ⟨y, by omega, y2, y3⟩
  have hk : ∀ x, x < s → zs_r σ (p + 5 + x) 0 ≠ 0 ∧ zs_r σ (p + 5 + x) 0 < 1200 := by
    intro x hx
    obtain ⟨t', g2, g3, g4⟩ := own x hx
    exact yST_k ((hthr t' g2).2.2.2.2.2.1 x g3 g4).1
  obtain ⟨g, hE⟩ := yEq_ex (par := -1) (K := -1) s h8 hD
  obtain ⟨σ', e1, w1, w2, w3, w4⟩ := yy_settle2 (F := F) hp h8 h6 hE hD hk s 0 F σ (by omega) (by omega) (by omega) (fun _ _ _ => rfl) (fun _ _ => rfl) (fun _ _ => rfl) (fun y w hy => by omega)
  refine ⟨σ', e1, ⟨V, L, tt, s, c, e, B, Tt, ⟨hS.1, hS.2.1, ht, ht2, h8⟩, ⟨?_, ?_, ?_, ?_⟩, ⟨hS.2.2.1, hS.2.2.2.1, ht1, h7⟩, fun x hx => ?_, ⟨hB0, hB1, hB2⟩, fun t' ht' => ?_⟩, ⟨fun o k x y => ⟨w1 _ _ (by omega), w2 _ _, w3 _ _⟩, w2 _ _, w2 _ _⟩, w1 _ _ (by omega)⟩
  · rw [w1 _ _ (by omega)]
    exact hv0
  · rw [w1 _ _ (by omega)]
    exact hv1
  · rw [w1 _ _ (by omega)]
    exact ht0
  · rw [w1 _ _ (by omega)]
    exact h6
  · rw [w1 _ _ (by omega)]
    exact hval x hx
  · obtain ⟨a1, a2, a3, a4, a5, a6, a7⟩ := hthr t' ht'
    have hBt : B (t' + 1) ≤ s := yTh_B h00 (by omega)
    have hEt : yEq σ p (-1) (-1) g (B t') (B (t' + 1)) := fun x x1 x2 => hE x (by omega) (by omega)
    refine ⟨a1, ?_, a3, ?_, ?_, fun x x1 x2 => ⟨?_, fun w hw vl => ?_⟩⟩
    · rw [w1 _ _ (by omega)]
      exact a2
    · rw [w1 _ _ (by omega)]
      exact a4
    · rw [w1 _ _ (by omega)]
      exact a5
    · exact yST_F (a6 x x1 x2).1 (Nat.le_refl _) (Nat.le_refl _) (fun k hk => w1 _ _ (by omega)) (w2 _ _) (fun k hk => ⟨w2 _ _, w1 _ _ (by omega)⟩) (fun o ho => rfl) (fun k hk => rfl)
    · rw [w2] at vl
      have hto := a7 g hEt x w x1 x2 hw vl
      rw [w4 x w (by omega) hw, hto]
      exact ⟨rfl, yEq_in hEt (by omega) (fun x x1 x2 => (a6 x x1 x2).2) 50 x (by omega) x1 x2 w hw⟩
/-- after a fault -/
theorem yk_rth {f : Int32} {σ : zs_S} (h : yK p f σ) (hp : yPP p) : zf_Parser_readThread F σ = some σ := by
  have hp2 := yPP_b hp
  unfold zf_Parser_readThread zf_Parser_readThread_23
  rw [h.2.1, zq_qr (by omega), yp_k hp, yq_g, yq_v, h.2.2.2.2, zq_qr (by decide), yn_12 (by decide), yq_g, if_neg (by decide), yy_kfail h, yq_s]
theorem yk_81 {f : Int32} {σ : zs_S} (h : yK p f σ) : zf_Parser_parse_81 F σ = some (f, σ) := by
  unfold zf_Parser_parse_81 zf_Parser_parse_95 zf_Parser_parse_111
  rw [h.2.2.2.2, zq_qr (by decide), yn_12 (by decide), yq_g, if_neg (by decide), yy_kfail h, yq_s, if_neg (by rw [h.2.2.1]; exact h.2.2.2.1), h.2.2.1]
theorem yk_56 {f x3 : Int32} {N : Nat} {σ : zs_S} (h : yK p f σ) (hN : 0 < N) : zf_Parser_parse_56 F N x3 σ = some (f, σ) := by
  obtain ⟨N, rfl⟩ : ∃ q, N = q + 1 := ⟨N - 1, by omega⟩
  by_cases h4 : 4 ≤ x3
  · rw [zf_Parser_parse_56, if_pos h4, yk_81 h]
  · rw [zf_Parser_parse_56, if_neg h4, yk_81 h, h.2.2.2.2, zq_qr (by decide), yn_12 (by decide), yq_g, if_neg (by decide)]
/-- what reading a program comes to -/
def yRP (p q : Nat) (σ τ : zs_S) (r : Int32) (σ' : zs_S) (r' : Int32) (τ' : zs_S) : Prop := (r' = 1 ∧ r = -2 ∧ yPR σ' τ' p q ∧ ygC p σ σ' ∧ ygM q τ τ') ∨ (r' = 0 ∧ ∃ f, f ≤ 1600 ∧ r = nI f ∧ zs_i τ' 1 11 = nI f ∧ ygC p σ σ' ∧ ygM q τ τ')
theorem yy_thrs {σ0 τ0 : zs_S} : ∀ d tt B Tt i s a c e N M σ τ, 5 - tt ≤ d → d + 2 < N → d + 2 < M → yTh F v n m p q V L tt B Tt i s a c e σ τ → ygC p σ0 σ → ygM q τ0 τ → ∃ r σ' r' τ', (zq_d (zf_Parser_readThread F σ) fun σ23 => zf_Parser_parse_56 F N (nI tt) σ23) = some (r, σ') ∧ zf_M_read_124 F M τ = some (r', τ') ∧ yRP p q σ0 τ0 r σ' r' τ' := by
  intro d
  induction d with
  | zero =>
    intro tt B Tt i s a c e N M σ τ a1 a2 a3 h gC gM
    have := h.2.2.2.2.2.2.2.2.2.1.2.2
    omega
  | succ d ih =>
    intro tt B Tt i s a c e N M σ τ a1 a2 a3 h gC gM
    have hB := h.1.1
    have hp := h.1.2.1
    have hq := h.1.2.2.1
    have hp2 := yPP_b hp
    obtain ⟨N, rfl⟩ : ∃ q, N = q + 1 := ⟨N - 1, by omega⟩
    obtain ⟨M, rfl⟩ : ∃ q, M = q + 1 := ⟨M - 1, by omega⟩
    obtain ⟨σ1, r1, τ1, e1, e2, hx⟩ := yTh_thread h
    have em : zf_M_read_124 F (M + 1) τ = if r1 = 0 then some (0, τ1) else if (zs_i τ1 1 7) = 0 then some (1, τ1) else zf_M_read_124 F M τ1 := by
      rw [zf_M_read_124, e2, yq_c]
    rw [e1, yq_s, em]
    rcases hx with ⟨hr, hc, htt, g1, g2, B', Tt', i', s', a', c', e', h'⟩ | ⟨hr, g1, g2, f, g3, g4, g5⟩
    · rw [hr, if_neg y01]
      have hP' := h'.2.1
      have hM' := h'.2.2.1
      have htk := yB_t hB i'
      have hkd : zs_i τ1 1 7 = yx_kd (yx_c v n i') := hM'.1.2.1.2.2.2.1
      have h76 := hP'.2.2.2.2.1
      have h4 : ¬ (4 : Int32) ≤ nI tt := nI_ge (a := tt) (b := 4) htt (by omega)
      by_cases h0 : yx_c v n i' = 1000
      · have hk0 : zs_i τ1 1 7 = 0 := by rw [hkd, h0]; decide
        rw [if_pos hk0]
        obtain ⟨σ2, k1, k2, k3, k4⟩ := yy_fin h' (by omega)
        refine ⟨-2, σ2, 1, τ1, ?_, rfl, Or.inl ⟨rfl, rfl, k2, ygC_t gC (ygC_t g1 k3), ygM_t gM g2⟩⟩
        rw [zf_Parser_parse_56, if_neg h4, h76, zq_qr (by omega), yn_12 (by omega), yq_g, h0, if_neg (by decide)]
        unfold zf_Parser_parse_81 zf_Parser_parse_95 zf_Parser_parse_111
        rw [h76, zq_qr (by omega), yn_12 (by omega), yq_g, if_pos h0, if_pos hP'.2.2.1, hP'.2.1, zq_qr (by omega), yp_k hp, yq_g, k1, yq_s, k4, hP'.2.2.1]
      · have hk0 : ¬ zs_i τ1 1 7 = 0 := by
          rw [hkd]
          unfold yx_kd
          rw [if_neg h0]
          repeat' split
          all_goals decide
        rw [if_neg hk0]
        by_cases h7 : yx_c v n i' = 1007
        · have ec : zf_Parser_parse_56 F (N + 1) (nI tt) σ1 = zq_d (zf_Parser_readThread F σ1) fun σ23 => zf_Parser_parse_56 F N (nI (tt + 1)) σ23 := by
            rw [zf_Parser_parse_56, if_neg h4, h76, zq_qr (by omega), yn_12 (by omega), yq_g, if_pos h7, nI_1]
            simp only [yq_v]
          rw [ec]
          exact ih (tt + 1) B' Tt' i' s' a' c' e' N M σ1 τ1 (by omega) (by omega) (by omega) h' (ygC_t gC g1) (ygM_t gM g2)
        · obtain ⟨x1, x2⟩ := yKF_fl (F := F) hB hp hP' hM'
          have x2' := yKF_t (ygC_t gC g1) (ygM_t gM g2) x2
          obtain ⟨y1, y2, f, y3, y4, y5⟩ := x2'
          obtain ⟨M, rfl⟩ : ∃ q, M = q + 1 := ⟨M - 1, by omega⟩
          refine ⟨nI f, yfl v n i' σ1, 0, _, ?_, ?_, Or.inr ⟨rfl, f, y3, rfl, y5, y1, y2⟩⟩
          · rw [zf_Parser_parse_56, if_neg h4, h76, zq_qr (by omega), yn_12 (by omega), yq_g, if_neg h7]
            unfold zf_Parser_parse_81 zf_Parser_parse_95 zf_Parser_parse_111
            rw [h76, zq_qr (by omega), yn_12 (by omega), yq_g, if_neg h0, x1, yq_s, if_neg (by rw [y4.2.2.1]; exact y4.2.2.2.1), y4.2.2.1]
          · rw [zf_M_read_124]
            unfold zf_M_thread zf_M_thread_20
            rw [yi_1302 hM'.1, yq_c, if_neg (show ¬ (yx_tk v n (yx_ps v n i')).1 = 1007 from h7), if_pos y00, ym_bad hM', yq_c, yz_0, yq_g, yq_c, if_pos y00]
    · rw [hr, if_pos y00]
      exact ⟨nI f, σ1, 0, τ1, yk_56 g4 (by omega), rfl, Or.inr ⟨rfl, f, g3, rfl, g5, ygC_t gC g1, ygM_t gM g2⟩⟩
/-- what a parser may change at all -/
def yhC (p : Nat) (σ σ' : zs_S) : Prop := ∀ o k, ¬ (o = 7 ∨ o = 8 ∨ o = 9) → ¬ (p ≤ o ∧ o < p + 59) → zs_i σ' o k = zs_i σ o k ∧ zs_r σ' o k = zs_r σ o k ∧ zs_l σ' o k = zs_l σ o k
def yhM (q : Nat) (τ τ' : zs_S) : Prop := (∀ o k, ¬ (o = 1 ∧ (k = 1 ∨ (5 ≤ k ∧ k ≤ 16))) → o ≠ 57 → ¬ (q ≤ o ∧ o < q + 27) → zs_i τ' o k = zs_i τ o k) ∧ (∀ o k, ¬ (o = 1 ∧ (k = 12 ∨ k = 13)) → zs_r τ' o k = zs_r τ o k) ∧ zs_i τ' 1 1 = 0
theorem yy_parse {σ τ : zs_S} (hF : 1700 < F) (hB : yB v n m) (hp : yPP p) (hq : yQQ q) (hrow : yx_rows v n (m + 1) σ) (ht : yx_TP v n τ) (hn : zs_i τ 1 1 = nI n) (hr3 : zs_r τ 1 3 = q) : ∃ r σ' r' τ', zf_Parser_parse F 3 p σ = some (r, σ') ∧ zf_M_read F τ = some (r', τ') ∧ yhC p σ σ' ∧ yhM q τ τ' ∧ ((r' = 1 ∧ r = -2 ∧ yPR σ' τ' p q) ∨ (r' = 0 ∧ ∃ f, f ≤ 1600 ∧ r = nI f ∧ zs_i τ' 1 11 = nI f)) := by
  have hp2 := yPP_b hp
  have hq2 := yQQ_b hq
  have htk := yB_t hB 0
  have hr0 : zs_r σ 4 0 = yx_c v n 0 := (hrow 0 (by omega)).1
  -- the class's store at its first token
  have ec : zf_Parser_parse F 3 p σ = zq_d (zf_Parser_readDeclarations_7 F F (nI 0) (zs_wi (zs_wi (zs_wi (zs_wi (zs_wi (zs_wi (zs_wi (zs_wi (zs_wr (zs_wr (zs_wi (zs_wr σ 7 4 3) 7 5 0) 7 6 (yx_c v n 0)) 7 7 p) p 0 0) p 1 0) p 2 0) p 3 0) (p + 55) 3 0) 7 8 (-2)) 7 9 0) 7 2 0)) fun σ20 => zq_d (zf_Parser_readThread F σ20) fun σ23 => zf_Parser_parse_56 F F (nI 0) σ23 := by
    have hcl : zf_Program_clear F p (zs_wr (zs_wr (zs_wi (zs_wr σ 7 4 3) 7 5 0) 7 6 (yx_c v n 0)) 7 7 p) = some (zs_wi (zs_wi (zs_wi (zs_wi (zs_wi (zs_wr (zs_wr (zs_wi (zs_wr σ 7 4 3) 7 5 0) 7 6 (yx_c v n 0)) 7 7 p) p 0 0) p 1 0) p 2 0) p 3 0) (p + 55) 3 0) := by
      unfold zf_Program_clear
      rw [yp_k hp, yq_g, yq_v, yq_v, yq_v, yq_v, yp_r8 hp, zq_qr (by omega), yp_k55 hp, yq_g, yq_v]
    unfold zf_Parser_parse
    rw [yn_n (by decide), yq_g, yq_v, yq_v, yt_ri, yt_re, zq_qr (by decide), ys_k3, yq_g, ys_r0, zq_qr (by decide), ys_k4, yq_g, ys_z4, show zq_b 0 1601 = true from by decide, yq_g, show (0 : Int32).toNatClampNeg = 0 from by decide, yt_ri, yt_rn _ _ (by omega), hr0, zq_qr (by omega), yq_v, yn_n (by omega), yq_g, yq_v, yt_re, zq_qr (by omega), yp_k hp, yq_g, hcl, yq_s, yq_v, yq_v]
    unfold zf_Parser_readDeclarations
    rw [yq_v]
    rfl
  -- the reference's
  have em0 : zf_M_read F τ = zq_d (zf_M_step F (zs_wi (zs_wi (zs_wi (zs_wi (zs_wi (zs_wi (zs_wi (zs_wi (zs_wi (zs_wi (zs_wi (zs_wr τ 1 12 q) (q + 1) 2 0) (q + 4) 2 0) q 5 0) q 6 0) q 12 0) 1 5 (nI n)) 1 1 0) 1 6 0) 1 11 (-1)) 1 14 0) 1 16 0)) fun σ29 => zf_M_read_91 F F σ29 := by
    have h11 : zs_i (zs_wi (zs_wi (zs_wi (zs_wi (zs_wi (zs_wr τ 1 12 q) (q + 1) 2 0) (q + 4) 2 0) q 5 0) q 6 0) q 12 0) 1 1 = nI n := by
      simp (disch := omega) only [yt_in, yt_ie, yt_ir, yt_il, yt_ri, yt_rl, yt_rn, yt_re, yt_li, yt_lr, yt_ln, yt_le]
      exact hn
    unfold zf_M_read
    rw [hr3, zq_qr (by omega), yn_n (by omega), yq_g, yq_v, yt_re, zq_qr (by omega), yv_k hq, yq_g, yv_r0 hq, zq_qr (by omega), yv_k1 hq, yq_g, yq_v, yt_ri, yt_re, zq_qr (by omega), yv_k hq, yq_g, yv_r1 hq, zq_qr (by omega), yv_k4 hq, yq_g, yq_v, yt_ri, yt_ri, yt_re, zq_qr (by omega), yv_k hq, yq_g, yq_v, yt_ri, yt_ri, yt_ri, yt_re, zq_qr (by omega), yv_k hq, yq_g, yq_v, yt_ri, yt_ri, yt_ri, yt_ri, yt_re, zq_qr (by omega), yv_k hq, yq_g, yq_v, h11, yq_v, yq_v, yq_v, yq_v, yq_v, yq_v]
  have hτi : ∀ o k, ¬ (o = 1 ∧ (k = 1 ∨ k = 5 ∨ k = 6 ∨ k = 11 ∨ k = 14 ∨ k = 16)) → ¬ (o = q ∧ (k = 5 ∨ k = 6 ∨ k = 12)) → ¬ ((o = q + 1 ∨ o = q + 4) ∧ k = 2) → zs_i (zs_wi (zs_wi (zs_wi (zs_wi (zs_wi (zs_wi (zs_wi (zs_wi (zs_wi (zs_wi (zs_wi (zs_wr τ 1 12 q) (q + 1) 2 0) (q + 4) 2 0) q 5 0) q 6 0) q 12 0) 1 5 (nI n)) 1 1 0) 1 6 0) 1 11 (-1)) 1 14 0) 1 16 0) o k = zs_i τ o k := fun o k x y z => by
    simp (disch := omega) only [yt_in, yt_ie, yt_ir, yt_il, yt_ri, yt_rl, yt_rn, yt_re, yt_li, yt_lr, yt_ln, yt_le]
  have hτr : ∀ o k, ¬ (o = 1 ∧ k = 12) → zs_r (zs_wi (zs_wi (zs_wi (zs_wi (zs_wi (zs_wi (zs_wi (zs_wi (zs_wi (zs_wi (zs_wi (zs_wr τ 1 12 q) (q + 1) 2 0) (q + 4) 2 0) q 5 0) q 6 0) q 12 0) 1 5 (nI n)) 1 1 0) 1 6 0) 1 11 (-1)) 1 14 0) 1 16 0) o k = zs_r τ o k := fun o k x => by
    simp (disch := omega) only [yt_in, yt_ie, yt_ir, yt_il, yt_ri, yt_rl, yt_rn, yt_re, yt_li, yt_lr, yt_ln, yt_le]
  have hcells : zs_i (zs_wi (zs_wi (zs_wi (zs_wi (zs_wi (zs_wi (zs_wi (zs_wi (zs_wi (zs_wi (zs_wi (zs_wr τ 1 12 q) (q + 1) 2 0) (q + 4) 2 0) q 5 0) q 6 0) q 12 0) 1 5 (nI n)) 1 1 0) 1 6 0) 1 11 (-1)) 1 14 0) 1 16 0) 1 5 = nI n ∧ zs_i (zs_wi (zs_wi (zs_wi (zs_wi (zs_wi (zs_wi (zs_wi (zs_wi (zs_wi (zs_wi (zs_wi (zs_wr τ 1 12 q) (q + 1) 2 0) (q + 4) 2 0) q 5 0) q 6 0) q 12 0) 1 5 (nI n)) 1 1 0) 1 6 0) 1 11 (-1)) 1 14 0) 1 16 0) 1 6 = nI 0 ∧ zs_i (zs_wi (zs_wi (zs_wi (zs_wi (zs_wi (zs_wi (zs_wi (zs_wi (zs_wi (zs_wi (zs_wi (zs_wr τ 1 12 q) (q + 1) 2 0) (q + 4) 2 0) q 5 0) q 6 0) q 12 0) 1 5 (nI n)) 1 1 0) 1 6 0) 1 11 (-1)) 1 14 0) 1 16 0) 1 11 = -1 ∧ zs_i (zs_wi (zs_wi (zs_wi (zs_wi (zs_wi (zs_wi (zs_wi (zs_wi (zs_wi (zs_wi (zs_wi (zs_wr τ 1 12 q) (q + 1) 2 0) (q + 4) 2 0) q 5 0) q 6 0) q 12 0) 1 5 (nI n)) 1 1 0) 1 6 0) 1 11 (-1)) 1 14 0) 1 16 0) 1 14 = nI 0 ∧ zs_i (zs_wi (zs_wi (zs_wi (zs_wi (zs_wi (zs_wi (zs_wi (zs_wi (zs_wi (zs_wi (zs_wi (zs_wr τ 1 12 q) (q + 1) 2 0) (q + 4) 2 0) q 5 0) q 6 0) q 12 0) 1 5 (nI n)) 1 1 0) 1 6 0) 1 11 (-1)) 1 14 0) 1 16 0) 1 1 = 0 ∧ zs_i (zs_wi (zs_wi (zs_wi (zs_wi (zs_wi (zs_wi (zs_wi (zs_wi (zs_wi (zs_wi (zs_wi (zs_wr τ 1 12 q) (q + 1) 2 0) (q + 4) 2 0) q 5 0) q 6 0) q 12 0) 1 5 (nI n)) 1 1 0) 1 6 0) 1 11 (-1)) 1 14 0) 1 16 0) (q + 1) 2 = nI 0 ∧ zs_i (zs_wi (zs_wi (zs_wi (zs_wi (zs_wi (zs_wi (zs_wi (zs_wi (zs_wi (zs_wi (zs_wi (zs_wr τ 1 12 q) (q + 1) 2 0) (q + 4) 2 0) q 5 0) q 6 0) q 12 0) 1 5 (nI n)) 1 1 0) 1 6 0) 1 11 (-1)) 1 14 0) 1 16 0) (q + 4) 2 = nI 0 ∧ zs_i (zs_wi (zs_wi (zs_wi (zs_wi (zs_wi (zs_wi (zs_wi (zs_wi (zs_wi (zs_wi (zs_wi (zs_wr τ 1 12 q) (q + 1) 2 0) (q + 4) 2 0) q 5 0) q 6 0) q 12 0) 1 5 (nI n)) 1 1 0) 1 6 0) 1 11 (-1)) 1 14 0) 1 16 0) q 5 = nI 0 ∧ zs_i (zs_wi (zs_wi (zs_wi (zs_wi (zs_wi (zs_wi (zs_wi (zs_wi (zs_wi (zs_wi (zs_wi (zs_wr τ 1 12 q) (q + 1) 2 0) (q + 4) 2 0) q 5 0) q 6 0) q 12 0) 1 5 (nI n)) 1 1 0) 1 6 0) 1 11 (-1)) 1 14 0) 1 16 0) q 6 = nI 0 ∧ zs_i (zs_wi (zs_wi (zs_wi (zs_wi (zs_wi (zs_wi (zs_wi (zs_wi (zs_wi (zs_wi (zs_wi (zs_wr τ 1 12 q) (q + 1) 2 0) (q + 4) 2 0) q 5 0) q 6 0) q 12 0) 1 5 (nI n)) 1 1 0) 1 6 0) 1 11 (-1)) 1 14 0) 1 16 0) q 12 = nI 0 ∧ zs_r (zs_wi (zs_wi (zs_wi (zs_wi (zs_wi (zs_wi (zs_wi (zs_wi (zs_wi (zs_wi (zs_wi (zs_wr τ 1 12 q) (q + 1) 2 0) (q + 4) 2 0) q 5 0) q 6 0) q 12 0) 1 5 (nI n)) 1 1 0) 1 6 0) 1 11 (-1)) 1 14 0) 1 16 0) 1 12 = q := by
    refine ⟨?_, ?_, ?_, ?_, ?_, ?_, ?_, ?_, ?_, ?_, ?_⟩
    all_goals simp (disch := omega) only [yt_in, yt_ie, yt_ir, yt_il, yt_ri, yt_rl, yt_rn, yt_re, yt_li, yt_lr, yt_ln, yt_le]
    all_goals rfl
  generalize zs_wi (zs_wi (zs_wi (zs_wi (zs_wi (zs_wi (zs_wi (zs_wi (zs_wi (zs_wi (zs_wi (zs_wr τ 1 12 q) (q + 1) 2 0) (q + 4) 2 0) q 5 0) q 6 0) q 12 0) 1 5 (nI n)) 1 1 0) 1 6 0) 1 11 (-1)) 1 14 0) 1 16 0 = τ1 at *
  obtain ⟨c5, c6, c11, c14, c1, cq1, cq4, cq5, cq6, cq12, cr⟩ := hcells
  have ht1 : yx_TP v n τ1 := ⟨ht.1, fun j hj => ⟨(ht.2 j hj).1, (hτi 2 j (by omega) (by omega) (by omega)).trans (ht.2 j hj).2⟩⟩
  obtain ⟨τ2, e2, hat, hL⟩ := yw_e (yy_step (F := F) ht1 c5 c6 (by omega) (by omega))
  have hps : yx_ps v n 0 = yx_E yx_sp v n 0 := rfl
  have hM : yM F v n m q 0 τ2 := by
    refine ⟨⟨⟨ht.1, fun j hj => ⟨(ht.2 j hj).1, (hL.1 2 j (by omega)).trans (ht1.2 j hj).2⟩⟩, ?_, (yB_p hB (show 0 ≤ m by omega)).2, by omega⟩, (hL.1 _ _ (by omega)).trans c5, (hL.2 _ _).trans cr, (hL.1 _ _ (by omega)).trans c11, by omega⟩
    rw [hps]
    exact hat
  have hσi : ∀ o k, ¬ (o = 7 ∧ (k = 2 ∨ k = 5 ∨ k = 8 ∨ k = 9)) → ¬ (o = p ∧ k ≤ 3) → ¬ (o = p + 55 ∧ k = 3) → zs_i (zs_wi (zs_wi (zs_wi (zs_wi (zs_wi (zs_wi (zs_wi (zs_wi (zs_wr (zs_wr (zs_wi (zs_wr σ 7 4 3) 7 5 0) 7 6 (yx_c v n 0)) 7 7 p) p 0 0) p 1 0) p 2 0) p 3 0) (p + 55) 3 0) 7 8 (-2)) 7 9 0) 7 2 0) o k = zs_i σ o k := fun o k x y z => by
    simp (disch := omega) only [yt_in, yt_ie, yt_ir, yt_il, yt_ri, yt_rl, yt_rn, yt_re, yt_li, yt_lr, yt_ln, yt_le]
  have hσr : ∀ o k, o ≠ 7 → zs_r (zs_wi (zs_wi (zs_wi (zs_wi (zs_wi (zs_wi (zs_wi (zs_wi (zs_wr (zs_wr (zs_wi (zs_wr σ 7 4 3) 7 5 0) 7 6 (yx_c v n 0)) 7 7 p) p 0 0) p 1 0) p 2 0) p 3 0) (p + 55) 3 0) 7 8 (-2)) 7 9 0) 7 2 0) o k = zs_r σ o k := fun o k x => by
    simp (disch := omega) only [yt_in, yt_ie, yt_ir, yt_il, yt_ri, yt_rl, yt_rn, yt_re, yt_li, yt_lr, yt_ln, yt_le]
  have hσl : ∀ o k, zs_l (zs_wi (zs_wi (zs_wi (zs_wi (zs_wi (zs_wi (zs_wi (zs_wi (zs_wr (zs_wr (zs_wi (zs_wr σ 7 4 3) 7 5 0) 7 6 (yx_c v n 0)) 7 7 p) p 0 0) p 1 0) p 2 0) p 3 0) (p + 55) 3 0) 7 8 (-2)) 7 9 0) 7 2 0) o k = zs_l σ o k := fun o k => rfl
  have hD : yDc F v n m p q 0 0 0 0 (zs_wi (zs_wi (zs_wi (zs_wi (zs_wi (zs_wi (zs_wi (zs_wi (zs_wr (zs_wr (zs_wi (zs_wr σ 7 4 3) 7 5 0) 7 6 (yx_c v n 0)) 7 7 p) p 0 0) p 1 0) p 2 0) p 3 0) (p + 55) 3 0) 7 8 (-2)) 7 9 0) 7 2 0) τ2 := by
    refine ⟨⟨hB, hp, hq, hF⟩, ⟨?_, ?_, ?_, ?_, ?_, by omega, yx_rowsF hrow (fun k => hσr _ _ (by omega)) (fun k => hσi _ _ (by omega) (by omega) (by omega)) (fun k => hσl _ _)⟩, hM, ⟨?_, ?_, ?_, ?_, (hL.1 _ _ (by omega)).trans cq5, (hL.1 _ _ (by omega)).trans cq6, (hL.1 _ _ (by omega)).trans cq12⟩, ⟨?_, (hL.1 _ _ (by omega)).trans c14, ?_, ?_⟩, ⟨fun _ => 0, fun _ => 0, fun _ => 0, fun _ => 0, by omega, by omega, (hL.1 _ _ (by omega)).trans cq1, (hL.1 _ _ (by omega)).trans cq4, fun x hx => by omega, fun x hx => by omega, fun y hy => by omega, fun x hx => by omega, fun x hx => by omega, fun y z hy => by omega⟩, fun x hx => by omega⟩
    all_goals simp (disch := omega) only [yt_in, yt_ie, yt_ir, yt_il, yt_ri, yt_rl, yt_rn, yt_re, yt_li, yt_lr, yt_ln, yt_le]
    all_goals rfl
  have gC0 : yhC p σ (zs_wi (zs_wi (zs_wi (zs_wi (zs_wi (zs_wi (zs_wi (zs_wi (zs_wr (zs_wr (zs_wi (zs_wr σ 7 4 3) 7 5 0) 7 6 (yx_c v n 0)) 7 7 p) p 0 0) p 1 0) p 2 0) p 3 0) (p + 55) 3 0) 7 8 (-2)) 7 9 0) 7 2 0) := fun o k x y => ⟨hσi o k (by omega) (by omega) (by omega), hσr o k (by omega), hσl o k⟩
  rw [ec, em0, e2, yq_s]
  generalize zs_wi (zs_wi (zs_wi (zs_wi (zs_wi (zs_wi (zs_wi (zs_wi (zs_wr (zs_wr (zs_wi (zs_wr σ 7 4 3) 7 5 0) 7 6 (yx_c v n 0)) 7 7 p) p 0 0) p 1 0) p 2 0) p 3 0) (p + 55) 3 0) 7 8 (-2)) 7 9 0) 7 2 0 = σ1 at *
  have fC : ∀ σ', ygC p σ1 σ' → yhC p σ σ' := fun σ' hg o k x y => ⟨(hg.1 o k x y).1.trans (gC0 o k x y).1, (hg.1 o k x y).2.1.trans (gC0 o k x y).2.1, (hg.1 o k x y).2.2.trans (gC0 o k x y).2.2⟩
  have fM : ∀ τ', ygM q τ2 τ' → yhM q τ τ' := fun τ' hg => ⟨fun o k x y z => by rw [hg.1 o k (by omega) y z, hL.1 o k (by omega), hτi o k (by omega) (by omega) (by omega)], fun o k x => by rw [hg.2 o k (by omega), hL.2 o k, hτr o k (by omega)], by rw [hg.1 1 1 (by omega) (by omega) (by omega), hL.1 1 1 (by omega)]; exact c1⟩
  obtain ⟨σ2, d1, hx⟩ := yDc_loop (F := F) (p := p) (q := q) (v := v) (n := n) (m := m) (σ0 := σ1) (τ0 := τ2) 13 0 F F 0 0 0 σ1 τ2 (by omega) (by omega) (by omega) (by omega) hD (ygC_r σ1) (ygM_r τ2)
  rw [d1, yq_s]
  rcases hx with ⟨τ', x1, x2, x3, f, x4, x5, x6⟩ | ⟨V', L', i', σ3, τ3, x1, x2, x3, x4, x5⟩
  · rw [x1, yk_rth x5 hp, yq_s, yk_56 x5 (by omega)]
    exact ⟨nI f, σ2, 0, τ', rfl, rfl, fC _ x2, fM _ x3, Or.inr ⟨rfl, f, x4, rfl, x6⟩⟩
  · rw [x2]
    obtain ⟨-, hP3, hM3, ⟨s1, s2, s3, s4, s5, s6, s7⟩, ⟨g1, g2, g3, g4⟩, ⟨C, K, kv, kl, hS⟩, hv⟩ := x3
    have hTh : yTh F v n m p q V' L' 0 (fun _ => 0) (fun _ => 0) i' 0 0 0 0 σ2 τ3 := by
      rw [x1]
      obtain ⟨b1, b2, b3, b4, b5, b6, b7⟩ := hP3
      exact ⟨⟨hB, hp, hq, hF⟩, ⟨b1, b2, (yt_in _ _ (by omega)).trans b3, (yt_in _ _ (by omega)).trans b4, b5, b6, yx_rowsF b7 (fun k => rfl) (fun k => yt_in _ _ (by omega)) (fun k => rfl)⟩, hM3, ⟨(yt_in _ _ (by omega)).trans s4, s6, by omega⟩, ⟨(yt_in _ _ (by omega)).trans g1, g2, by omega⟩, ⟨(yt_in _ _ (by omega)).trans g3, by omega⟩, ⟨s7, by omega⟩, ⟨(yt_in _ _ (by omega)).trans s1, (yt_in _ _ (by omega)).trans s2, yt_ie _ _ _ _⟩, ⟨C, K, kv, kl, yNS_F hS (fun k _ => rfl) (fun k _ => yt_in _ _ (by omega)) (fun o k _ _ => rfl)⟩, ⟨(yt_in _ _ (by omega)).trans s3, s5, by omega⟩, fun x hx => ⟨by rw [yt_in _ _ (by omega)]; exact (hv x hx).1, (hv x hx).2⟩, ⟨rfl, rfl, fun t ht => by omega⟩, fun t ht => by omega⟩
    have gC2 : ygC p σ1 σ2 := by
      rw [x1]
      exact ygC_t x4 ⟨fun o k x y => ⟨yt_in _ _ (by omega), rfl, rfl⟩, rfl, rfl⟩
    obtain ⟨r, σ', r', τ', y1, y2, y3⟩ := yy_thrs (σ0 := σ1) (τ0 := τ2) 5 0 (fun _ => 0) (fun _ => 0) i' 0 0 0 0 F F σ2 τ3 (by omega) (by omega) (by omega) hTh gC2 x5
    refine ⟨r, σ', r', τ', y1, y2, ?_⟩
    rcases y3 with ⟨z1, z2, z3, z4, z5⟩ | ⟨z1, f, z2, z3, z4, z5, z6⟩
    · exact ⟨fC _ z4, fM _ z5, Or.inl ⟨z1, z2, z3⟩⟩
    · exact ⟨fC _ z5, fM _ z6, Or.inr ⟨z1, f, z2, z3, z4⟩⟩
end YRD
