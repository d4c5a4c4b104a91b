/-! the first call on fresh objects (p1), and helpers that whole needs too -/
section ZPA
theorem zq_cr {α β : Type} {a : α} {σ : zs_S} {k : α → zs_S → Option β} : zq_c (some (a, σ)) k = k a σ := rfl
theorem zq_dr {β : Type} {σ : zs_S} {k : zs_S → Option β} : zq_d (some σ) k = k σ := rfl
theorem zq_qr {β : Type} {q : Nat} {k : Nat → Option β} (h : q ≠ 0) : zq_q q k = k q := by
  cases q with
  | zero => exact absurd rfl h
  | succ n => rfl
theorem zq_gr {α : Type} {x : Option α} : zq_g true x = x := rfl
theorem zp_b {n N : Nat} (h : n < N) (hN : N < 2 ^ 31) : zq_b (nI n) N = true := by
  unfold zq_b
  rw [decide_eq_false (nI_pos (by omega)), decide_eq_false (by rw [nI_clamp (by omega)]; omega)]
  rfl
theorem zp_in {F : Nat} {x a b : Int32} {τ : zs_S} : zf_M_in F x a b τ = some (if x < a then 0 else if b < x then 0 else 1, τ) := by
  unfold zf_M_in
  by_cases h1 : x < a
  · rw [if_pos h1, if_pos h1]
    rfl
  · rw [if_neg h1, if_neg h1]
    by_cases h2 : b < x
    · rw [if_pos h2, if_pos h2]
      rfl
    · rw [if_neg h2, if_neg h2]
      rfl
theorem zp_has {F : Nat} {x : Int32} {σ : zs_S} (h : zs_i σ 10 9 = 0) : zf_States_has F x σ = some (0, σ) := by
  unfold zf_States_has
  by_cases h1 : x < 0
  · rw [if_pos h1]
    rfl
  · rw [if_neg h1, if_pos (by rw [h]; exact Int32.not_lt.mp h1)]
    rfl
theorem zp_isIn {F : Nat} {x : Int32} {τ : zs_S} (h : zs_i τ 1 23 = 0) : zf_M_isIn F x τ = some (0, τ) := by
  have e : (if x < 0 then (0 : Int32) else if zs_i τ 1 23 - 1 < x then 0 else 1) = 0 := by
    by_cases h1 : x < 0
    · rw [if_pos h1]
    · rw [if_neg h1, if_pos]
      rw [h]
      have h2 := Int32.not_lt.mp h1
      rw [Int32.le_iff_toInt_le] at h2
      rw [Int32.lt_iff_toInt_lt]
      have h3 : ((0 : Int32) - 1).toInt = -1 := by decide
      have h4 : (0 : Int32).toInt = 0 := by decide
      omega
  unfold zf_M_isIn
  rw [zp_in, e]
  rfl
theorem zp_isT {F : Nat} {x y : Int32} {τ : zs_S} (h : zs_i τ 1 23 = 0) : zf_M_isThread F x y τ = some (0, τ) := by
  unfold zf_M_isThread
  rw [zp_isIn h]
  rfl
theorem zp_S_value {F : Nat} {a b : Int32} {σ : zs_S} (h : zs_i σ 10 9 = 0) : zf_S_value F a b σ = some (1000, σ) := by
  unfold zf_S_value
  rw [zp_has h]
  rfl
theorem zp_M_value {F : Nat} {a b : Int32} {τ : zs_S} (h : zs_i τ 1 23 = 0) : zf_M_value F a b τ = some (1000, τ) := by
  unfold zf_M_value
  rw [zp_isIn h]
  rfl
theorem zp_S_local {F : Nat} {a b c : Int32} {σ : zs_S} (h : zs_i σ 10 9 = 0) : zf_S_local F a b c σ = some (1000, σ) := by
  unfold zf_S_local
  rw [zp_has h]
  rfl
theorem zp_M_local {F : Nat} {a b c : Int32} {τ : zs_S} (h : zs_i τ 1 23 = 0) : zf_M_local F a b c τ = some (1000, τ) := by
  unfold zf_M_local
  rw [zp_isT h]
  rfl
theorem zp_S_place {F : Nat} {a b : Int32} {σ : zs_S} (h : zs_i σ 10 9 = 0) : zf_S_place F a b σ = some (-2, σ) := by
  unfold zf_S_place
  rw [zp_has h]
  rfl
theorem zp_M_place {F : Nat} {a b : Int32} {τ : zs_S} (h : zs_i τ 1 23 = 0) : zf_M_place F a b τ = some (-2, τ) := by
  unfold zf_M_place
  rw [zp_isT h]
  rfl
theorem zp_S_owner {F : Nat} {a b : Int32} {σ : zs_S} (h : zs_i σ 10 9 = 0) : zf_S_owner F a b σ = some (-2, σ) := by
  unfold zf_S_owner
  rw [zp_has h]
  rfl
theorem zp_M_owner {F : Nat} {a b : Int32} {τ : zs_S} (h : zs_i τ 1 23 = 0) : zf_M_owner F a b τ = some (-2, τ) := by
  unfold zf_M_owner
  rw [zp_isIn h]
  rfl
theorem zp_S_waits {F : Nat} {a b : Int32} {σ : zs_S} (h : zs_i σ 10 9 = 0) : zf_S_waits F a b σ = some (-2, σ) := by
  unfold zf_S_waits
  rw [zp_has h]
  rfl
theorem zp_M_waits {F : Nat} {a b : Int32} {τ : zs_S} (h : zs_i τ 1 23 = 0) : zf_M_waits F a b τ = some (-2, τ) := by
  unfold zf_M_waits
  rw [zp_isT h]
  rfl
theorem zp_S_next {F : Nat} {a b : Int32} {σ : zs_S} (h : zs_i σ 10 9 = 0) : zf_S_next F a b σ = some (-2, σ) := by
  unfold zf_S_next
  rw [zp_has h]
  rfl
theorem zp_M_next {F : Nat} {a b : Int32} {τ : zs_S} (h : zs_i τ 1 23 = 0) : zf_M_next F a b τ = some (-2, τ) := by
  unfold zf_M_next
  rw [zp_isIn h]
  rfl
theorem zp_S_look {F : Nat} {a b : Int32} {σ : zs_S} (h : zs_i σ 10 9 = 0) : zf_S_look F a b σ = some (if b < 0 then -1 else if b ≤ 4 then -2 else -1, σ) := by
  unfold zf_S_look
  by_cases h1 : b < 0
  · rw [if_pos h1, if_pos h1]
    rfl
  · rw [if_neg h1, if_neg h1]
    by_cases h2 : b ≤ 4
    · rw [if_pos h2, if_pos h2, zp_has h]
      rfl
    · rw [if_neg h2, if_neg h2]
      rfl
theorem zp_M_look {F : Nat} {a b : Int32} {τ : zs_S} (h : zs_i τ 1 23 = 0) : zf_M_look F a b τ = some (if b < 0 then -1 else if b ≤ 4 then -2 else -1, τ) := by
  unfold zf_M_look
  rw [zp_in]
  by_cases h1 : b < 0
  · rw [if_pos h1, if_pos h1]
    rfl
  · rw [if_neg h1, if_neg h1]
    by_cases h2 : b ≤ 4
    · rw [if_pos h2, if_neg (Int32.not_lt.mpr h2)]
      rw [zq_cr, if_neg (by decide : ¬ (1 : Int32) = 0), zp_isIn h]
      rfl
    · rw [if_neg h2, if_pos (Int32.not_le.mp h2)]
      rfl
theorem zp_S_first {F : Nat} {a : Int32} {σ : zs_S} (h : zs_i σ 10 9 = 0) : zf_S_first (F + 1) a σ = some (if a < 0 then -1 else if a ≤ 2 then -2 else -1, σ) := by
  unfold zf_S_first
  by_cases h1 : a < 0
  · rw [if_pos h1, if_pos h1]
    rfl
  · rw [if_neg h1, if_neg h1]
    by_cases h2 : a ≤ 2
    · rw [if_pos h2, if_pos h2, zf_S_first_13, if_pos (by rw [h]; decide)]
    · rw [if_neg h2, if_neg h2]
      rfl
theorem zp_M_first {F : Nat} {a : Int32} {τ : zs_S} (h : zs_i τ 1 23 = 0) : zf_M_first (F + 1) a τ = some (if a < 0 then -1 else if a ≤ 2 then -2 else -1, τ) := by
  unfold zf_M_first
  rw [zp_in]
  by_cases h1 : a < 0
  · rw [if_pos h1, if_pos h1]
    rfl
  · rw [if_neg h1, if_neg h1]
    by_cases h2 : a ≤ 2
    · rw [if_pos h2, if_neg (Int32.not_lt.mpr h2)]
      show zf_M_first_13 (F + 1) (F + 1) a 0 τ = _
      rw [zf_M_first_13, if_pos (by rw [h]; decide)]
    · rw [if_neg h2, if_pos (Int32.not_le.mp h2)]
      rfl
theorem zp_aw {F m n : Nat} {x1 x2 : Int32} {σ : zs_S} (h : zs_i σ 1 1 = nI n) (hn : n < 1600) (h2 : ¬ x2 < 0) : ∃ σ' : zs_S, zf_S_addWord_3 F (m + 1) x1 x2 σ = zf_S_addWord_3 F m x1 (x2 + (-8)) σ' ∧ zs_i σ' 1 1 = nI (n + 1) := by
  refine ⟨zs_wi (zs_wi σ 2 (zs_i σ 1 1).toNatClampNeg (vp_nar .byte ((x1 >>> (x2 &&& 31) : Int32)).toInt8.toInt32)) 1 1 (zs_i (zs_wi σ 2 (zs_i σ 1 1).toNatClampNeg (vp_nar .byte ((x1 >>> (x2 &&& 31) : Int32)).toInt8.toInt32)) 1 1 + 1), ?_, ?_⟩
  · rw [zf_S_addWord_3, if_neg h2, show zq_b (zs_i σ 1 1) 1600 = true by rw [h]; exact zp_b hn (by omega)]
    rfl
  · rw [zs_iu, zs_in σ _ _ (by decide : (1 : Nat) ≠ 2), h]
    simp only [upd, if_true]
    exact nI_1 n
theorem zp_addWord {F n : Nat} {x1 : Int32} {σ : zs_S} (h : zs_i σ 1 1 = nI n) (hn : n + 4 ≤ 1600) : ∃ σ' : zs_S, zf_S_addWord (F + 5) x1 σ = some σ' ∧ zs_i σ' 1 1 = nI (n + 4) := by
  unfold zf_S_addWord
  obtain ⟨s1, e1, h1⟩ := zp_aw (F := F + 5) (m := F + 4) (x1 := x1) (x2 := 24) h (by omega) (by decide)
  obtain ⟨s2, e2, h2⟩ := zp_aw (F := F + 5) (m := F + 3) (x1 := x1) (x2 := 24 + (-8)) h1 (by omega) (by decide)
  obtain ⟨s3, e3, h3⟩ := zp_aw (F := F + 5) (m := F + 2) (x1 := x1) (x2 := 24 + (-8) + (-8)) h2 (by omega) (by decide)
  obtain ⟨s4, e4, h4⟩ := zp_aw (F := F + 5) (m := F + 1) (x1 := x1) (x2 := 24 + (-8) + (-8) + (-8)) h3 (by omega) (by decide)
  refine ⟨s4, ?_, h4⟩
  rw [e1, e2, e3, e4, zf_S_addWord_3, if_pos (by decide)]
theorem zp_S_feed {F n : Nat} {a b c d e : Int32} {σ : zs_S} (h : zs_i σ 1 1 = nI n) (hn : n + 20 ≤ 1600) : ∃ σ' : zs_S, zf_S_feed (F + 5) a b c d e σ = some (nI (n + 20), σ') ∧ zs_i σ' 1 1 = nI (n + 20) := by
  obtain ⟨s1, e1, h1⟩ := zp_addWord (F := F) (x1 := a) h (by omega)
  obtain ⟨s2, e2, h2⟩ := zp_addWord (F := F) (x1 := b) h1 (by omega)
  obtain ⟨s3, e3, h3⟩ := zp_addWord (F := F) (x1 := c) h2 (by omega)
  obtain ⟨s4, e4, h4⟩ := zp_addWord (F := F) (x1 := d) h3 (by omega)
  obtain ⟨s5, e5, h5⟩ := zp_addWord (F := F) (x1 := e) h4 (by omega)
  refine ⟨s5, ?_, h5⟩
  have hc : zs_i σ 1 1 + 20 ≤ 1600 := by
    rw [h, show (20 : Int32) = nI 20 by decide, nI_add, show (1600 : Int32) = nI 1600 by decide]
    exact nI_le hn (by omega)
  unfold zf_S_feed
  rw [if_pos hc, e1]
  show zq_d (zf_S_addWord (F + 5) b s1) _ = _
  rw [e2]
  show zq_d (zf_S_addWord (F + 5) c s2) _ = _
  rw [e3]
  show zq_d (zf_S_addWord (F + 5) d s3) _ = _
  rw [e4]
  show zq_d (zf_S_addWord (F + 5) e s4) _ = _
  rw [e5]
  show some (zs_i s5 1 1, s5) = _
  rw [h5]
theorem zp_fl {F n : Nat} {a b c d e : Int32} (hn : n + 20 ≤ 1600) : ∀ (j k m : Nat) (τ : zs_S), k + j = 20 → zs_i τ 1 1 = nI n → j < m → ∃ τ' : zs_S, zf_M_feed_46 F a b c d e m (nI k) τ = some (nI (n + 20), τ') ∧ zs_i τ' 1 1 = nI (n + 20) := by
  intro j
  induction j with
  | zero =>
    intro k m τ hk h hm
    obtain ⟨m, rfl⟩ : ∃ q, m = q + 1 := ⟨m - 1, by omega⟩
    have hk : k = 20 := by omega
    subst hk
    refine ⟨zs_wi τ 1 1 (zs_i τ 1 1 + 20), ?_, ?_⟩
    · rw [zf_M_feed_46, if_pos (by decide)]
      show some (zs_i (zs_wi τ 1 1 (zs_i τ 1 1 + 20)) 1 1, zs_wi τ 1 1 (zs_i τ 1 1 + 20)) = _
      rw [show zs_i (zs_wi τ 1 1 (zs_i τ 1 1 + 20)) 1 1 = nI (n + 20) by rw [zs_iu, h]; simp only [upd, if_true]; exact nI_add n 20]
    · rw [zs_iu, h]
      simp only [upd, if_true]
      exact nI_add n 20
  | succ j ih =>
    intro k m τ hk h hm
    obtain ⟨m, rfl⟩ : ∃ q, m = q + 1 := ⟨m - 1, by omega⟩
    have hq : nI k / 4 = nI (k / 4) := pk_div (a := k) (d := 4) (by omega) (by decide) (by decide)
    have e1 : zq_b (nI k / 4) 5 = true := by rw [hq]; exact zp_b (by omega) (by decide)
    have e2 : zq_b (zs_i τ 1 1 + nI k) 1600 = true := by rw [h, nI_add]; exact zp_b (by omega) (by decide)
    obtain ⟨τ', g1, g2⟩ := ih (k + 1) m (zs_wi τ 2 ((zs_i τ 1 1 + nI k).toNatClampNeg) (vp_nar .byte ((zd_fv a b c d e (nI k / 4).toNatClampNeg >>> ((24 - 8 * (nI k - nI k / 4 * 4)) &&& 31))).toInt8.toInt32)) (by omega) (by rw [zs_in τ _ _ (by decide : (1 : Nat) ≠ 2)]; exact h) (by omega)
    refine ⟨τ', ?_, g2⟩
    rw [zf_M_feed_46, if_neg (by rw [show (20 : Int32) = nI 20 by decide]; exact nI_ge (by omega) (by omega)), e1]
    show zq_g (zq_b (zs_i τ 1 1 + nI k) 1600) _ = _
    rw [e2]
    rw [← g1]
    show zf_M_feed_46 F a b c d e m (nI k + 1) _ = _
    rw [nI_1]
theorem zp_M_feed {F n : Nat} {a b c d e : Int32} {τ : zs_S} (h : zs_i τ 1 1 = nI n) (hn : n + 20 ≤ 1600) : ∃ τ' : zs_S, zf_M_feed (F + 21) a b c d e τ = some (nI (n + 20), τ') ∧ zs_i τ' 1 1 = nI (n + 20) := by
  have hc : zs_i τ 1 1 + 20 ≤ 1600 := by
    rw [h, show (20 : Int32) = nI 20 by decide, nI_add, show (1600 : Int32) = nI 1600 by decide]
    exact nI_le hn (by omega)
  obtain ⟨τ', g1, g2⟩ := zp_fl (F := F + 21) (a := a) (b := b) (c := c) (d := d) (e := e) hn 20 0 (F + 21) τ (by omega) h (by omega)
  refine ⟨τ', ?_, g2⟩
  unfold zf_M_feed
  rw [if_pos hc]
  exact g1
theorem zp_full {n : Nat} (hn : 1600 < n + 20) (hm : n ≤ 1600) {x : Int32} (h : x = nI n) : ¬ x + 20 ≤ 1600 := by
  rw [h, show (20 : Int32) = nI 20 by decide, nI_add, show (1600 : Int32) = nI 1600 by decide]
  exact nI_ge hn (by omega)
theorem zp_S_full {F n : Nat} {a b c d e : Int32} {σ : zs_S} (h : zs_i σ 1 1 = nI n) (hn : 1600 < n + 20) (hm : n ≤ 1600) : zf_S_feed F a b c d e σ = some (-3, σ) := by
  unfold zf_S_feed
  rw [if_neg (zp_full hn hm h)]
theorem zp_M_full {F n : Nat} {a b c d e : Int32} {τ : zs_S} (h : zs_i τ 1 1 = nI n) (hn : 1600 < n + 20) (hm : n ≤ 1600) : zf_M_feed F a b c d e τ = some (-3, τ) := by
  unfold zf_M_feed
  rw [if_neg (zp_full hn hm h)]
/-- end, for any stores with tapes alike in length -/
theorem zp_end {F : Nat} {a : Int32} {σ τ : zs_S} (h : zs_i τ 1 1 = zs_i σ 1 1) : ∃ (r : Int32) (σ1 τ1 : zs_S), zf_S_end F a σ = some (r, σ1) ∧ zf_M_end F a τ = some (r, τ1) ∧ ((r = -1 ∧ σ1 = σ ∧ τ1 = τ) ∨ (r = a ∧ ¬ a < 0 ∧ a ≤ zs_i σ 1 1 ∧ σ1 = zs_wi σ 1 1 a ∧ τ1 = zs_wi τ 1 1 a)) := by
  unfold zf_S_end zf_M_end
  rw [zp_in, h]
  by_cases h1 : a < 0
  · rw [if_pos h1, if_pos h1]
    exact ⟨-1, σ, τ, rfl, rfl, Or.inl ⟨rfl, rfl, rfl⟩⟩
  · rw [if_neg h1, if_neg h1]
    by_cases h2 : a ≤ zs_i σ 1 1
    · rw [if_pos h2, if_neg (Int32.not_lt.mpr h2)]
      exact ⟨a, _, _, rfl, rfl, Or.inr ⟨rfl, h1, h2, rfl, rfl⟩⟩
    · rw [if_neg h2, if_pos (Int32.not_le.mp h2)]
      exact ⟨-1, σ, τ, rfl, rfl, Or.inl ⟨rfl, rfl, rfl⟩⟩
/-- the made stores -/
abbrev zp_s : zs_S := zk_f_S_init_1 zt_0
abbrev zp_m : zs_S := zk_f_M_init_1 zt_0
theorem zp_si (o k : Nat) : zs_i zp_s o k = 0 := rfl
theorem zp_mi (o k : Nat) : zs_i zp_m o k = 0 := rfl
theorem zp_fst {α : Type} {x : Option (Int32 × α)} {r : Int32} (h : x.map Prod.fst = some r) : ∃ y : α, x = some (r, y) := by
  cases x with
  | none => cases h
  | some q =>
    obtain ⟨a, y⟩ := q
    have h : some a = some r := h
    cases h
    exact ⟨y, rfl⟩
theorem zp_kc : (zf_S_check 300 zp_s).map Prod.fst = some 0 := by decide +kernel
theorem zp_km : (zf_M_check 300 zp_m).map Prod.fst = some 0 := by decide +kernel
theorem zp_cS : ∀ i, i < 9 → (zf_S_count 300 (nI i) zp_s).map Prod.fst = some 0 := by decide +kernel
theorem zp_S_cd {F : Nat} {a : Int32} {σ : zs_S} (h : ∀ i, i < 9 → ¬ a = nI i) : zf_S_count F a σ = some (-1, σ) := by
  unfold zf_S_count
  rw [if_neg (fun q => h 0 (by omega) (q.trans (by decide))), if_neg (fun q => h 1 (by omega) (q.trans (by decide))), if_neg (fun q => h 2 (by omega) (q.trans (by decide))), if_neg (fun q => h 3 (by omega) (q.trans (by decide))), if_neg (fun q => h 4 (by omega) (q.trans (by decide))), if_neg (fun q => h 5 (by omega) (q.trans (by decide))), if_neg (fun q => h 6 (by omega) (q.trans (by decide))), if_neg (fun q => h 7 (by omega) (q.trans (by decide))), if_neg (fun q => h 8 (by omega) (q.trans (by decide)))]
theorem zp_S_hv {F : Nat} {x : Int32} {σ : zs_S} (h : zs_i σ 20 0 = 0) : zf_Program_hasVariable F 20 x σ = some (0, σ) := by
  unfold zf_Program_hasVariable
  by_cases h1 : x < 0
  · rw [if_pos h1]
    rfl
  · rw [if_neg h1, show zq_k 0 20 15 = true by decide, zq_gr, if_pos (by rw [h]; exact Int32.not_lt.mp h1)]
    rfl
theorem zp_r6 : zs_r zp_s 1 6 = 20 := by decide +kernel
theorem zp_S_outcome {F : Nat} {a b : Int32} : zf_S_outcome F a b zp_s = some (1000, zp_s) := by
  unfold zf_S_outcome
  rw [zp_r6, zq_qr (by decide), show zq_k 0 20 15 = true by decide, zq_gr, zp_S_hv (zp_si 20 0)]
  rfl
theorem zp_S_race {F : Nat} {a : Int32} : zf_S_race F a zp_s = some (-2, zp_s) := by
  unfold zf_S_race
  rw [zp_r6, zq_qr (by decide), show zq_k 0 20 15 = true by decide, zq_gr, zp_S_hv (zp_si 20 0)]
  rfl
theorem zp_M_outcome {F : Nat} {a b : Int32} {τ : zs_S} (h : zs_i τ 1 4 = 0) : zf_M_outcome F a b τ = some (1000, τ) := by
  unfold zf_M_outcome
  rw [if_pos h]
  rfl
theorem zp_M_race {F : Nat} {a : Int32} {τ : zs_S} (h : zs_i τ 1 4 = 0) : zf_M_race F a τ = some (-2, τ) := by
  unfold zf_M_race
  rw [if_pos h]
  rfl
theorem zp_M_count {F : Nat} {a : Int32} {τ : zs_S} (h : zs_i τ 1 4 = 0) : zf_M_count F a τ = some (if a < 0 then -1 else if 8 < a then -1 else 0, τ) := by
  unfold zf_M_count
  rw [zp_in]
  by_cases h1 : a < 0
  · rw [if_pos h1, if_pos h1]
    rfl
  · rw [if_neg h1, if_neg h1]
    by_cases h2 : 8 < a
    · rw [if_pos h2, if_pos h2]
      rfl
    · rw [if_neg h2, if_neg h2, zq_cr, if_neg (by decide : ¬ (1 : Int32) = 0), if_pos h]
theorem zp_c9 {a : Int32} (h1 : ¬ a < 0) (h2 : ¬ 8 < a) : ∃ i, i < 9 ∧ a = nI i := by
  obtain ⟨j, hj, e⟩ := nI_of h1
  refine ⟨j, ?_, e⟩
  rw [e, show (8 : Int32) = nI 8 by decide] at h2
  exact Nat.lt_of_not_le (fun q => h2 (nI_lt (by omega) (by omega)))
/-- the first call on fresh objects: both answer, and alike -/
theorem zp_step : zl_step 300 1 (fun k σ τ => k = 0 → σ = zp_s ∧ τ = zp_m) := by
  intro k σ τ hk hI
  have hk0 : k = 0 := by omega
  obtain ⟨e1, e2⟩ := hI hk0
  subst e1
  subst e2
  have tv : ∀ (x y : zs_S), k + 1 = 0 → x = zp_s ∧ y = zp_m := fun x y h => absurd h (by omega)
  have i0 : zs_i zp_s 1 1 = nI 0 := rfl
  have j0 : zs_i zp_m 1 1 = nI 0 := rfl
  refine ⟨fun a1 a2 a3 a4 a5 => ?_, fun a1 => ?_, ?_, fun a1 => ?_, fun a1 => ⟨_, _, _, zp_S_first (F := 299) (zp_si 10 9), zp_M_first (F := 299) (zp_mi 1 23), tv _ _⟩, fun a1 a2 => ⟨_, _, _, zp_S_look (zp_si 10 9), zp_M_look (zp_mi 1 23), tv _ _⟩, fun a1 a2 => ⟨_, _, _, zp_S_value (zp_si 10 9), zp_M_value (zp_mi 1 23), tv _ _⟩, fun a1 a2 a3 => ⟨_, _, _, zp_S_local (zp_si 10 9), zp_M_local (zp_mi 1 23), tv _ _⟩, fun a1 a2 => ⟨_, _, _, zp_S_place (zp_si 10 9), zp_M_place (zp_mi 1 23), tv _ _⟩, fun a1 a2 => ⟨_, _, _, zp_S_owner (zp_si 10 9), zp_M_owner (zp_mi 1 23), tv _ _⟩, fun a1 a2 => ⟨_, _, _, zp_S_waits (zp_si 10 9), zp_M_waits (zp_mi 1 23), tv _ _⟩, fun a1 a2 => ⟨_, _, _, zp_S_next (zp_si 10 9), zp_M_next (zp_mi 1 23), tv _ _⟩, fun a1 a2 => ⟨_, _, _, zp_S_outcome, zp_M_outcome (zp_mi 1 4), tv _ _⟩, fun a1 => ⟨_, _, _, zp_S_race, zp_M_race (zp_mi 1 4), tv _ _⟩, tv _ _⟩
  · obtain ⟨s1, g1, -⟩ := zp_S_feed (F := 295) (a := a1) (b := a2) (c := a3) (d := a4) (e := a5) i0 (by omega)
    obtain ⟨t1, g2, -⟩ := zp_M_feed (F := 279) (a := a1) (b := a2) (c := a3) (d := a4) (e := a5) j0 (by omega)
    exact ⟨_, _, _, g1, g2, tv _ _⟩
  · obtain ⟨r, s1, t1, g1, g2, -⟩ := zp_end (F := 300) (a := a1) (σ := zp_s) (τ := zp_m) rfl
    exact ⟨_, _, _, g1, g2, tv _ _⟩
  · obtain ⟨s1, g1⟩ := zp_fst zp_kc
    obtain ⟨t1, g2⟩ := zp_fst zp_km
    exact ⟨_, _, _, g1, g2, tv _ _⟩
  · have g2 := zp_M_count (F := 300) (a := a1) (zp_mi 1 4)
    by_cases h1 : a1 < 0
    · rw [if_pos h1] at g2
      exact ⟨_, _, _, zp_S_cd (fun i hi e => nI_pos (n := i) (by omega) (e ▸ h1)), g2, tv _ _⟩
    · rw [if_neg h1] at g2
      by_cases h2 : 8 < a1
      · rw [if_pos h2] at g2
        refine ⟨_, _, _, zp_S_cd (fun i hi e => ?_), g2, tv _ _⟩
        rw [e, show (8 : Int32) = nI 8 by decide] at h2
        exact nI_nlt (by omega) (by omega) h2
      · rw [if_neg h2] at g2
        obtain ⟨i, hi, e⟩ := zp_c9 h1 h2
        obtain ⟨s1, g1⟩ := zp_fst (zp_cS i hi)
        rw [← e] at g1
        exact ⟨_, _, _, g1, g2, tv _ _⟩
end ZPA
