/-! names: the class's one list, the reference's three -/
section YNA
theorem yx_1002 {v : Nat → Nat} {n j : Nat} (hb : ∀ x, x < n → v x < 256) (h : (yx_tk v n j).1 = 1002) : j < n ∧ yx_lt (v j) = true := by
  unfold yx_tk at h
  by_cases hj : n ≤ j
  · rw [if_pos hj] at h
    exact absurd h (show ¬ (1000 : Nat) = 1002 by decide)
  · rw [if_neg hj] at h
    refine ⟨by omega, ?_⟩
    by_cases hl : yx_lt (v j) = true
    · exact hl
    · rw [if_neg hl] at h
      by_cases hd : yx_dg (v j) = true
      · rw [if_pos hd] at h
        by_cases q : yx_nn v j (yx_E yx_dg v n j - j) ≤ 127
        · rw [if_pos q] at h
          exact absurd h (show ¬ (1003 : Nat) = 1002 by decide)
        · rw [if_neg q] at h
          exact absurd h (show ¬ (1001 : Nat) = 1002 by decide)
      · rw [if_neg hd] at h
        have hd2 : (if j + 1 < n then v (j + 1) else 0) < 256 := by
          by_cases q : j + 1 < n
          · rw [if_pos q]
            exact hb _ q
          · rw [if_neg q]
            decide
        have e2 := yx_f2d (hb j (by omega)) hd2 hl
        have e1 := yx_f1d (c := v j)
        by_cases q : yx_find (v j * 256 + (if j + 1 < n then v (j + 1) else 0)) 2 = 1001
        · rw [if_pos q] at h
          have h : yx_find (v j) 1 = 1002 := h
          omega
        · rw [if_neg q] at h
          have h : yx_find (v j * 256 + (if j + 1 < n then v (j + 1) else 0)) 2 = 1002 := h
          omega
/-- the length of the token i, its key -/
def yln (v : Nat → Nat) (n i : Nat) : Nat := (yx_tk v n (yx_ps v n i)).2.1 - yx_ps v n i
def yky (v : Nat → Nat) (n i : Nat) : Nat := yx_pn v (yx_ps v n i) (yln v n i)
theorem yTN_i {v : Nat → Nat} {n m i : Nat} (hB : yB v n m) (h : yx_c v n i = 1002) : yTN v n (yx_ps v n i) (yln v n i) ∧ (yx_tk v n (yx_ps v n i)).2.2 = yky v n i ∧ yky v n i < 2 ^ 63 ∧ yx_ps v n i ≤ (yx_tk v n (yx_ps v n i)).2.1 := by
  have h0 : (yx_tk v n (yx_ps v n i)).1 = 1002 := h
  obtain ⟨h1, h2⟩ := yx_1002 hB.2.1 h0
  rcases yx_tkx (v := v) (n := n) (j := yx_ps v n i) hB.2.1 with h3 | ⟨h3, h4, h5, h6, h7⟩
  · omega
  · have h8 : (yx_tk v n (yx_ps v n i)).2.2 = yx_pn v (yx_ps v n i) ((yx_tk v n (yx_ps v n i)).2.1 - yx_ps v n i) := by
      rcases h7 with ⟨-, -, h7⟩ | ⟨-, h7, -⟩
      · exact h7
      · omega
    have h9 := yx_lt_iff.mp h2
    refine ⟨⟨by unfold yln; omega, h5, by unfold yln; omega, h6, by omega⟩, h8, ?_, by omega⟩
    have h10 := (yx_pn_lt (v := v) (j := yx_ps v n i) _ h6).2 (by omega)
    have h11 := Nat.pow_le_pow_right (show 0 < 256 by decide) h5
    unfold yky yln
    omega
theorem yl_nat {a : Nat} (h : a < 2 ^ 63) : (lN a).toBitVec.toNat = a := by
  show (BitVec.ofNat 64 a).toNat = a
  rw [BitVec.toNat_ofNat]
  exact Nat.mod_eq_of_lt (by omega)
theorem yl_eq {a b : Nat} (ha : a < 2 ^ 63) (hb : b < 2 ^ 63) : (lg_cmp (lN a) (lN b) = 0) = (a = b) := by
  apply propext
  rw [lg_cmp_eq]
  constructor
  · intro h
    have h1 : (lN a).toBitVec.toNat = (lN b).toBitVec.toNat := congrArg (fun x => x.toBitVec.toNat) h
    rw [yl_nat ha, yl_nat hb] at h1
    exact h1
  · intro h
    rw [h]
theorem yn_p1 (c : Nat) : nI (c + 1) + (-1) = nI c := by
  rw [show nI (c + 1) + (-1) = nI (c + 1) - 1 from (Int32.sub_eq_add_neg _ _).symm, nI_pred]
/-- the class's search, from b down to a -/
theorem yy_cf {F n m p i a : Nat} {v K : Nat → Nat} {σ : zs_S} (hB : yB v n m) (h : yP v n m p i σ) (hc : yx_c v n i = 1002) : ∀ d b N, a ≤ b → b ≤ 15 → b - a ≤ d → d < N → (∀ y, a ≤ y → y < b → zs_l σ 8 y = lN (K y) ∧ K y < 2 ^ 63) → (∃ y, a ≤ y ∧ y < b ∧ K y = yky v n i ∧ zf_Parser_find_7 F N (nI a) (nI b - 1) σ = some (zs_i σ 9 y, σ) ∧ ∀ z, y < z → z < b → K z ≠ yky v n i) ∨ ((∀ z, a ≤ z → z < b → K z ≠ yky v n i) ∧ zf_Parser_find_7 F N (nI a) (nI b - 1) σ = some (-2, σ)) := by
  obtain ⟨h1, h2, h3, h4, h5, h6, h7⟩ := h
  have hm := yB_m hB
  obtain ⟨t1, t2, t3, -⟩ := yTN_i hB hc
  have hl : zs_l σ 6 i = lN (yky v n i) := by
    have := (h7 i (by omega)).2.2 (Or.inl hc)
    rw [t2] at this
    exact this
  intro d
  induction d with
  | zero =>
    intro b N g1 g2 g3 g4 g5
    obtain ⟨N, rfl⟩ : ∃ q, N = q + 1 := ⟨N - 1, by omega⟩
    refine Or.inr ⟨fun z z1 z2 => by omega, ?_⟩
    have hab : a = b := by omega
    subst hab
    have : ∀ a, a ≤ 15 → nI a - 1 < nI a := by decide +kernel
    rw [zf_Parser_find_7, if_pos (this a g2)]
  | succ d ih =>
    intro b N g1 g2 g3 g4 g5
    obtain ⟨N, rfl⟩ : ∃ q, N = q + 1 := ⟨N - 1, by omega⟩
    by_cases hab : a = b
    · subst hab
      refine Or.inr ⟨fun z z1 z2 => by omega, ?_⟩
      have : ∀ a, a ≤ 15 → nI a - 1 < nI a := by decide +kernel
      rw [zf_Parser_find_7, if_pos (this a g2)]
    · obtain ⟨b, rfl⟩ : ∃ q, b = q + 1 := ⟨b - 1, by omega⟩
      obtain ⟨k1, k2⟩ := g5 b (by omega) (by omega)
      have e1 : zf_Parser_find_7 F (N + 1) (nI a) (nI (b + 1) - 1) σ = if K b = yky v n i then some (zs_i σ 9 b, σ) else zf_Parser_find_7 F N (nI a) (nI b - 1) σ := by
        rw [nI_pred, zf_Parser_find_7, if_neg (nI_nlt (by omega) (by omega)), h5, hc]
        unfold zf_Parser_find_51
        rw [show nI b + (-1) = nI b - 1 from (Int32.sub_eq_add_neg _ _).symm]
        simp (disch := first | omega | decide) only [zq_v, zq_qr, yn_12, zq_gr, reduceIte, yn_b, h1, ys_k3, ys_r2, ys_k6, ys_z6, h4, nI_clamp, k1, hl, yl_eq]
      by_cases q : K b = yky v n i
      · refine Or.inl ⟨b, by omega, by omega, q, ?_, fun z z1 z2 => by omega⟩
        rw [e1, if_pos q]
      · rcases ih b N (by omega) (by omega) (by omega) (by omega) (fun y y1 y2 => g5 y y1 (by omega)) with ⟨y, y1, y2, y3, y4, y5⟩ | ⟨y1, y2⟩
        · refine Or.inl ⟨y, y1, by omega, y3, by rw [e1, if_neg q, y4], fun z z1 z2 => ?_⟩
          by_cases hz : z = b
          · subst hz
            exact q
          · exact y5 z z1 (by omega)
        · refine Or.inr ⟨fun z z1 z2 => ?_, by rw [e1, if_neg q, y2]⟩
          by_cases hz : z = b
          · subst hz
            exact q
          · exact y1 z z1 (by omega)
/-- the shared names -/
def yNS (σ τ : zs_S) (q V L : Nat) (C K kv kl : Nat → Nat) : Prop := V ≤ 8 ∧ L ≤ 4 ∧ zs_i τ (q + 1) 2 = nI V ∧ zs_i τ (q + 4) 2 = nI L ∧ (∀ x, x < V → yRK τ (q + 1) x (kv x)) ∧ (∀ x, x < L → yRK τ (q + 4) x (kl x)) ∧ (∀ y, y < V + L → zs_l σ 8 y = lN (K y) ∧ K y < 2 ^ 63 ∧ zs_i σ 9 y = nI (C y) ∧ ((C y < V ∧ K y = kv (C y)) ∨ (8 ≤ C y ∧ C y < 8 + L ∧ K y = kl (C y - 8)))) ∧ (∀ x, x < V → ∃ y, y < V + L ∧ C y = x) ∧ (∀ x, x < L → ∃ y, y < V + L ∧ C y = 8 + x) ∧ (∀ y z, y < V + L → z < V + L → K y = K z → y = z)
/-- the thread's own names -/
def yNT (σ τ : zs_S) (q t S T : Nat) (kt : Nat → Nat) : Prop := T ≤ 3 ∧ t < 4 ∧ zs_i σ 7 2 = nI (S + T) ∧ zs_i σ 7 3 = nI S ∧ zs_r τ 1 13 = q + 15 + 3 * t ∧ zs_i τ (q + 15 + 3 * t) 2 = nI T ∧ (∀ x, x < T → yRK τ (q + 15 + 3 * t) x (kt x) ∧ zs_l σ 8 (S + x) = lN (kt x) ∧ kt x < 2 ^ 63 ∧ zs_i σ 9 (S + x) = nI (20 + 3 * t + x)) ∧ (∀ x y, x < T → y < T → kt x = kt y → x = y)
theorem yRK_F {τ τ' : zs_S} {o x K : Nat} (h : yRK τ o x K) (h1 : ∀ k, zs_i τ' (o + 1) k = zs_i τ (o + 1) k) (h2 : ∀ k, zs_i τ' (o + 2) k = zs_i τ (o + 2) k) : yRK τ' o x K := by
  obtain ⟨ln, w, l1, l2, l3, l4, l5, l6⟩ := h
  exact ⟨ln, w, l1, l2, (h2 x).trans l3, fun i hi => ⟨(l4 i hi).1, (h1 _).trans (l4 i hi).2⟩, l5, l6⟩
theorem yNS_F {σ τ σ' τ' : zs_S} {q V L : Nat} {C K kv kl : Nat → Nat} (h : yNS σ τ q V L C K kv kl) (h8 : ∀ k, k < V + L → zs_l σ' 8 k = zs_l σ 8 k) (h9 : ∀ k, k < V + L → zs_i σ' 9 k = zs_i σ 9 k) (hq : ∀ o k, q + 1 ≤ o → o ≤ q + 6 → zs_i τ' o k = zs_i τ o k) : yNS σ' τ' q V L C K kv kl := by
  obtain ⟨a1, a2, a3, a4, a5, a6, a7, a8, a9, a10⟩ := h
  refine ⟨a1, a2, (hq _ _ (by omega) (by omega)).trans a3, (hq _ _ (by omega) (by omega)).trans a4, fun x hx => yRK_F (a5 x hx) (fun k => hq _ _ (by omega) (by omega)) (fun k => hq _ _ (by omega) (by omega)), fun x hx => yRK_F (a6 x hx) (fun k => hq _ _ (by omega) (by omega)) (fun k => hq _ _ (by omega) (by omega)), fun y hy => ?_, a8, a9, a10⟩
  obtain ⟨b1, b2, b3, b4⟩ := a7 y hy
  exact ⟨(h8 y hy).trans b1, b2, (h9 y hy).trans b3, b4⟩
theorem yNT_F {σ τ σ' τ' : zs_S} {q t S T : Nat} {kt : Nat → Nat} (h : yNT σ τ q t S T kt) (h8 : ∀ k, zs_l σ' 8 k = zs_l σ 8 k) (h9 : ∀ k, zs_i σ' 9 k = zs_i σ 9 k) (h72 : zs_i σ' 7 2 = zs_i σ 7 2) (h73 : zs_i σ' 7 3 = zs_i σ 7 3) (hr : zs_r τ' 1 13 = zs_r τ 1 13) (hq : ∀ o k, q + 15 ≤ o → o ≤ q + 26 → zs_i τ' o k = zs_i τ o k) : yNT σ' τ' q t S T kt := by
  obtain ⟨a1, a2, a3, a4, a5, a6, a7, a8⟩ := h
  refine ⟨a1, a2, h72.trans a3, h73.trans a4, hr.trans a5, (hq _ _ (by omega) (by omega)).trans a6, fun x hx => ?_, a8⟩
  obtain ⟨b1, b2, b3, b4⟩ := a7 x hx
  exact ⟨yRK_F b1 (fun k => hq _ _ (by omega) (by omega)) (fun k => hq _ _ (by omega) (by omega)), (h8 _).trans b2, b3, (h9 _).trans b4⟩
def yNm (σ τ : zs_S) (q t V L T : Nat) : Prop := ∃ C K kv kl kt, yNS σ τ q V L C K kv kl ∧ yNT σ τ q t (V + L) T kt
theorem yNm_F {σ τ σ' τ' : zs_S} {q t V L T : Nat} (h : yNm σ τ q t V L T) (h8 : ∀ k, zs_l σ' 8 k = zs_l σ 8 k) (h9 : ∀ k, zs_i σ' 9 k = zs_i σ 9 k) (h72 : zs_i σ' 7 2 = zs_i σ 7 2) (h73 : zs_i σ' 7 3 = zs_i σ 7 3) (hr : zs_r τ' 1 13 = zs_r τ 1 13) (hq1 : ∀ o k, q + 1 ≤ o → o ≤ q + 6 → zs_i τ' o k = zs_i τ o k) (hq2 : ∀ o k, q + 15 ≤ o → o ≤ q + 26 → zs_i τ' o k = zs_i τ o k) : yNm σ' τ' q t V L T := by
  obtain ⟨C, K, kv, kl, kt, h1, h2⟩ := h
  exact ⟨C, K, kv, kl, kt, yNS_F h1 (fun k _ => h8 k) (fun k _ => h9 k) hq1, yNT_F h2 h8 h9 h72 h73 hr hq2⟩
/-- the searches for the shared names, both sides -/
theorem yy_looks {F n m p q i V L : Nat} {v C K kv kl : Nat → Nat} {σ τ : zs_S} (hF : 1600 < F) (hB : yB v n m) (hq : yQQ q) (ht : yx_TP v n τ) (hP : yP v n m p i σ) (hc : yx_c v n i = 1002) (hS : yNS σ τ q V L C K kv kl) : ∃ r1 r2, zf_MN_find F (q + 1) 2 (nI (yx_ps v n i)) (nI (yln v n i)) τ = some (r1, τ) ∧ zf_MN_find F (q + 4) 2 (nI (yx_ps v n i)) (nI (yln v n i)) τ = some (r2, τ) ∧ ((∃ y x, y < V + L ∧ K y = yky v n i ∧ C y = x ∧ x < V ∧ r1 = nI x ∧ r2 = -1) ∨ (∃ y x, y < V + L ∧ K y = yky v n i ∧ C y = 8 + x ∧ x < L ∧ r1 = -1 ∧ r2 = nI x) ∨ ((∀ y, y < V + L → K y ≠ yky v n i) ∧ r1 = -1 ∧ r2 = -1)) := by
  obtain ⟨a1, a2, a3, a4, a5, a6, a7, a8, a9, a10⟩ := hS
  obtain ⟨t1, t2, t3, -⟩ := yTN_i hB hc
  obtain ⟨r1, e1, c1⟩ := ym_find (F := F) (yv_nv hq) (by omega) ht t1 a3 a1 a5 (by omega)
  obtain ⟨r2, e2, c2⟩ := ym_find (F := F) (yv_nl hq) (by omega) ht t1 a4 a2 a6 (by omega)
  refine ⟨r1, r2, e1, e2, ?_⟩
  have hv : ∀ x, x < V → ∀ y, y < V + L → C y = x → K y = kv x := by
    intro x hx y hy e
    rcases (a7 y hy).2.2.2 with ⟨b1, b2⟩ | ⟨b1, b2, b3⟩
    · rw [b2, e]
    · omega
  have hl : ∀ x, x < L → ∀ y, y < V + L → C y = 8 + x → K y = kl x := by
    intro x hx y hy e
    rcases (a7 y hy).2.2.2 with ⟨b1, b2⟩ | ⟨b1, b2, b3⟩
    · omega
    · rw [b3, e]
      congr 1
      omega
  rcases c1 with ⟨x, x1, x2, x3⟩ | ⟨x1, x2⟩
  · obtain ⟨y, y1, y2⟩ := a8 x x1
    have y3 := hv x x1 y y1 y2
    refine Or.inl ⟨y, x, y1, y3.trans x3, y2, x1, x2, ?_⟩
    rcases c2 with ⟨z, z1, z2, z3⟩ | ⟨z1, z2⟩
    · obtain ⟨w, w1, w2⟩ := a9 z z1
      have w3 := hl z z1 w w1 w2
      have := a10 y w y1 w1 (by rw [y3, w3, x3, z3])
      subst this
      omega
    · exact z1
  · rcases c2 with ⟨z, z1, z2, z3⟩ | ⟨z1, z2⟩
    · obtain ⟨w, w1, w2⟩ := a9 z z1
      have w3 := hl z z1 w w1 w2
      exact Or.inr (Or.inl ⟨w, z, w1, w3.trans z3, w2, z1, x1, z2⟩)
    · refine Or.inr (Or.inr ⟨fun y y1 y2 => ?_, x1, z1⟩)
      rcases (a7 y y1).2.2.2 with ⟨b1, b2⟩ | ⟨b1, b2, b3⟩
      · exact x2 _ b1 (b2.symm.trans y2)
      · exact z2 (C y - 8) (by omega) (b3.symm.trans y2)
/-- what a name is, both sides -/
theorem yy_look {F n m p q i t V L T : Nat} {v : Nat → Nat} {σ τ : zs_S} (hF : 1600 < F) (hB : yB v n m) (hq : yQQ q) (ht : yx_TP v n τ) (hP : yP v n m p i σ) (hc : yx_c v n i = 1002) (hN : yNm σ τ q t V L T) : ∃ r r0 r1 r2, zf_Parser_find F 0 σ = some (r, σ) ∧ zf_MN_find F (q + 15 + 3 * t) 2 (nI (yx_ps v n i)) (nI (yln v n i)) τ = some (r0, τ) ∧ zf_MN_find F (q + 1) 2 (nI (yx_ps v n i)) (nI (yln v n i)) τ = some (r1, τ) ∧ zf_MN_find F (q + 4) 2 (nI (yx_ps v n i)) (nI (yln v n i)) τ = some (r2, τ) ∧ ((∃ x, x < T ∧ r = nI (20 + 3 * t + x) ∧ r0 = nI x) ∨ (r0 = -1 ∧ ((∃ x, x < V ∧ r = nI x ∧ r1 = nI x ∧ r2 = -1) ∨ (∃ x, x < L ∧ r = nI (8 + x) ∧ r1 = -1 ∧ r2 = nI x) ∨ (r = -2 ∧ r1 = -1 ∧ r2 = -1)))) := by
  obtain ⟨C, K, kv, kl, kt, hS, hT⟩ := hN
  obtain ⟨r1, r2, e1, e2, hs⟩ := yy_looks hF hB hq ht hP hc hS
  obtain ⟨a1, a2, a3, a4, a5, a6, a7, a8, a9, a10⟩ := hS
  obtain ⟨b1, b2, b3, b4, b5, b6, b7, b8⟩ := hT
  obtain ⟨t1, t2, t3, -⟩ := yTN_i hB hc
  obtain ⟨r0, e0, c0⟩ := ym_find (F := F) (yv_nt hq b2).1 (by omega) ht t1 b6 b1 (fun x hx => (b7 x hx).1) (by omega)
  have hk : ∀ y, 0 ≤ y → y < V + L + T → zs_l σ 8 y = lN (if y < V + L then K y else kt (y - (V + L))) ∧ (if y < V + L then K y else kt (y - (V + L))) < 2 ^ 63 := by
    intro y _ hy
    by_cases q : y < V + L
    · rw [if_pos q]
      exact ⟨(a7 y q).1, (a7 y q).2.1⟩
    · rw [if_neg q]
      have := b7 (y - (V + L)) (by omega)
      rw [show V + L + (y - (V + L)) = y by omega] at this
      exact ⟨this.2.1, this.2.2.1⟩
  have hf : zf_Parser_find F 0 σ = zf_Parser_find_7 F F (nI 0) (nI (V + L + T) - 1) σ := by
    unfold zf_Parser_find
    rw [b3]
    rfl
  rcases yy_cf (F := F) (a := 0) (K := fun y => if y < V + L then K y else kt (y - (V + L))) hB hP hc 20 (V + L + T) F (by omega) (by omega) (by omega) (by omega) hk with ⟨y, -, y2, y3, y4, y5⟩ | ⟨y1, y2⟩
  · refine ⟨_, r0, r1, r2, hf.trans y4, e0, e1, e2, ?_⟩
    by_cases q : y < V + L
    · rw [if_pos q] at y3
      have h0 : r0 = -1 := by
        rcases c0 with ⟨x, x1, x2, x3⟩ | ⟨x1, -⟩
        · have := y5 (V + L + x) (by omega) (by omega)
          rw [if_neg (by omega), show V + L + x - (V + L) = x by omega] at this
          exact absurd x3 this
        · exact x1
      refine Or.inr ⟨h0, ?_⟩
      rcases hs with ⟨z, x, z1, z2, z3, z4, z5, z6⟩ | ⟨z, x, z1, z2, z3, z4, z5, z6⟩ | ⟨z1, -, -⟩
      · have := a10 y z q z1 (y3.trans z2.symm)
        subst this
        exact Or.inl ⟨x, z4, by rw [(a7 y q).2.2.1, z3], z5, z6⟩
      · have := a10 y z q z1 (y3.trans z2.symm)
        subst this
        exact Or.inr (Or.inl ⟨x, z4, by rw [(a7 y q).2.2.1, z3], z5, z6⟩)
      · exact absurd y3 (z1 y q)
    · rw [if_neg q] at y3
      refine Or.inl ⟨y - (V + L), by omega, ?_, ?_⟩
      · have := (b7 (y - (V + L)) (by omega)).2.2.2
        rw [show V + L + (y - (V + L)) = y by omega] at this
        exact this
      · rcases c0 with ⟨x, x1, x2, x3⟩ | ⟨x1, x2⟩
        · rw [x2, b8 x (y - (V + L)) x1 (by omega) (x3.trans y3.symm)]
        · exact absurd y3 (x2 _ (by omega))
  · refine ⟨_, r0, r1, r2, hf.trans y2, e0, e1, e2, ?_⟩
    have h0 : r0 = -1 := by
      rcases c0 with ⟨x, x1, x2, x3⟩ | ⟨x1, -⟩
      · have := y1 (V + L + x) (by omega) (by omega)
        rw [if_neg (by omega), show V + L + x - (V + L) = x by omega] at this
        exact absurd x3 this
      · exact x1
    refine Or.inr ⟨h0, Or.inr (Or.inr ⟨rfl, ?_⟩)⟩
    rcases hs with ⟨z, x, z1, z2, -⟩ | ⟨z, x, z1, z2, -⟩ | ⟨-, z2, z3⟩
    · have := y1 z (by omega) (by omega)
      rw [if_pos z1] at this
      exact absurd z2 this
    · have := y1 z (by omega) (by omega)
      rw [if_pos z1] at this
      exact absurd z2 this
    · exact ⟨z2, z3⟩
/-- where the token's cells lie -/
theorem yM_c {F n m q i : Nat} {v : Nat → Nat} {τ : zs_S} (hB : yB v n m) (h : yM F v n m q i τ) (hc : yx_c v n i = 1002) : zs_i τ 1 8 = nI (yx_ps v n i) ∧ zs_i τ 1 9 - zs_i τ 1 8 = nI (yln v n i) := by
  obtain ⟨⟨ht, ⟨b1, b2, b3, b4, b5⟩, c1, c2⟩, d1, d2, d3, d4⟩ := h
  refine ⟨b1, ?_⟩
  rw [b1, b2, yn_sub (yTN_i hB hc).2.2.2]
  rfl
end YNA
