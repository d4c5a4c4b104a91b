/-! tapes: feed and end -/
section YFE
variable {F n : Nat} {a b c d e : Int32}
/-- the byte of place j of the five words -/
def yfb (a b c d e : Int32) (j : Nat) : Int32 := vp_nar .byte ((zd_fv a b c d e (j / 4) >>> (nI (24 - 8 * (j % 4)) &&& 31)).toInt8.toInt32)
theorem yfb_8 (j : Nat) : yb8 (yfb a b c d e j) := by
  unfold yfb yb8
  rw [vp_nar_byte, Int8.toInt8_toInt32, Int8.toInt8_toInt32]
/-- of σ' the tape has k places more than of σ -/
def yfe (B : Nat → Int32) (n k : Nat) (σ σ' : zs_S) : Prop := (∀ j, j < n → zs_i σ' 2 j = zs_i σ 2 j) ∧ (∀ j, j < k → zs_i σ' 2 (n + j) = B j) ∧ (∀ o i, o ≠ 2 → ¬ (o = 1 ∧ i = 1) → zs_i σ' o i = zs_i σ o i) ∧ (∀ o i, zs_r σ' o i = zs_r σ o i)
theorem yfe_0 (B : Nat → Int32) (σ : zs_S) : yfe B n 0 σ σ := ⟨fun _ _ => rfl, fun j hj => by omega, fun _ _ _ _ => rfl, fun _ _ => rfl⟩
theorem yfe_w {B : Nat → Int32} {k : Nat} {σ σ' : zs_S} {x : Int32} (h : yfe B n k σ σ') (hx : x = B k) : yfe B n (k + 1) σ (zs_wi σ' 2 (n + k) x) := by
  obtain ⟨h1, h2, h3, h4⟩ := h
  refine ⟨fun j hj => (yt_in _ _ (by omega)).trans (h1 j hj), fun j hj => ?_, fun o i ho hi => (yt_in _ _ (by omega)).trans (h3 o i ho hi), h4⟩
  by_cases hk : j = k
  · subst hk
    rw [yt_ie]
    exact hx
  · exact (yt_in _ _ (by omega)).trans (h2 j (by omega))
theorem yfe_t {B : Nat → Int32} {k : Nat} {σ σ' : zs_S} {x : Int32} (h : yfe B n k σ σ') : yfe B n k σ (zs_wi σ' 1 1 x) := by
  obtain ⟨h1, h2, h3, h4⟩ := h
  exact ⟨fun j hj => (yt_in _ _ (by omega)).trans (h1 j hj), fun j hj => (yt_in _ _ (by omega)).trans (h2 j hj), fun o i ho hi => (yt_in _ _ (by omega)).trans (h3 o i ho hi), h4⟩
theorem yfe_b {i r : Nat} {x2 : Int32} (hr : r < 4) (h2 : x2 = nI (24 - 8 * r)) : vp_nar .byte ((zd_fv a b c d e i >>> (x2 &&& 31)).toInt8.toInt32) = yfb a b c d e (4 * i + r) := by
  unfold yfb
  rw [show (4 * i + r) / 4 = i by omega, show (4 * i + r) % 4 = r by omega, h2]
theorem yfe_s {m k i r : Nat} {x2 : Int32} {σ σ' : zs_S} (h : yfe (yfb a b c d e) n k σ σ') (hn : zs_i σ' 1 1 = nI (n + k)) (hk : n + k < 1600) (hki : k = 4 * i + r) (hr : r < 4) (h2 : x2 = nI (24 - 8 * r)) : ∃ σ'' : zs_S, zf_S_addWord_3 F (m + 1) (zd_fv a b c d e i) x2 σ' = zf_S_addWord_3 F m (zd_fv a b c d e i) (x2 + (-8)) σ'' ∧ zs_i σ'' 1 1 = nI (n + (k + 1)) ∧ yfe (yfb a b c d e) n (k + 1) σ σ'' := by
  subst hki
  refine ⟨zs_wi (zs_wi σ' 2 (n + (4 * i + r)) (yfb a b c d e (4 * i + r))) 1 1 (nI (n + (4 * i + r + 1))), ?_, yt_ie _ _ _ _, yfe_t (yfe_w h rfl)⟩
  have h3 : ¬ x2 < 0 := by
    rw [h2]
    exact nI_pos (by omega)
  rw [zf_S_addWord_3, if_neg h3, hn, zp_b hk (by decide), yq_g, yq_v, nI_clamp (by omega), yfe_b hr h2, yq_v, yq_v, yt_in _ _ (by omega), hn, nI_1]
  rfl
theorem yfe_a {i : Nat} {σ σ' : zs_S} (hi : i < 5) (h : yfe (yfb a b c d e) n (4 * i) σ σ') (hn : zs_i σ' 1 1 = nI (n + 4 * i)) (hk : n + 20 ≤ 1600) : ∃ σ'' : zs_S, zf_S_addWord (F + 5) (zd_fv a b c d e i) σ' = some σ'' ∧ zs_i σ'' 1 1 = nI (n + 4 * (i + 1)) ∧ yfe (yfb a b c d e) n (4 * (i + 1)) σ σ'' := by
  obtain ⟨s1, e1, n1, h1⟩ := yfe_s (F := F + 5) (m := F + 4) (i := i) (r := 0) (x2 := 24) h hn (by omega) rfl (by omega) (by decide)
  obtain ⟨s2, e2, n2, h2⟩ := yfe_s (F := F + 5) (m := F + 3) (i := i) (r := 1) (x2 := 24 + (-8)) h1 n1 (by omega) rfl (by omega) (by decide)
  obtain ⟨s3, e3, n3, h3⟩ := yfe_s (F := F + 5) (m := F + 2) (i := i) (r := 2) (x2 := 24 + (-8) + (-8)) h2 n2 (by omega) rfl (by omega) (by decide)
  obtain ⟨s4, e4, n4, h4⟩ := yfe_s (F := F + 5) (m := F + 1) (i := i) (r := 3) (x2 := 24 + (-8) + (-8) + (-8)) h3 n3 (by omega) rfl (by omega) (by decide)
  refine ⟨s4, ?_, n4, h4⟩
  unfold zf_S_addWord
  rw [e1, e2, e3, e4, zf_S_addWord_3, if_pos (by decide)]
theorem yfe_S {σ : zs_S} (h : zs_i σ 1 1 = nI n) (hn : n + 20 ≤ 1600) : ∃ σ' : zs_S, zf_S_feed (F + 5) a b c d e σ = some (nI (n + 20), σ') ∧ zs_i σ' 1 1 = nI (n + 20) ∧ yfe (yfb a b c d e) n 20 σ σ' := by
  have hc : zs_i σ 1 1 + 20 ≤ 1600 := by
    rw [h, show (20 : Int32) = nI 20 by decide, nI_add, show (1600 : Int32) = nI 1600 by decide]
    exact nI_le hn (by omega)
  obtain ⟨s1, e1, n1, h1⟩ := yfe_a (F := F) (a := a) (b := b) (c := c) (d := d) (e := e) (i := 0) (by omega) (yfe_0 _ σ) h hn
  obtain ⟨s2, e2, n2, h2⟩ := yfe_a (F := F) (i := 1) (by omega) h1 n1 hn
  obtain ⟨s3, e3, n3, h3⟩ := yfe_a (F := F) (i := 2) (by omega) h2 n2 hn
  obtain ⟨s4, e4, n4, h4⟩ := yfe_a (F := F) (i := 3) (by omega) h3 n3 hn
  obtain ⟨s5, e5, n5, h5⟩ := yfe_a (F := F) (i := 4) (by omega) h4 n4 hn
  have e1 : zf_S_addWord (F + 5) a σ = some s1 := e1
  have e2 : zf_S_addWord (F + 5) b s1 = some s2 := e2
  have e3 : zf_S_addWord (F + 5) c s2 = some s3 := e3
  have e4 : zf_S_addWord (F + 5) d s3 = some s4 := e4
  have e5 : zf_S_addWord (F + 5) e s4 = some s5 := e5
  refine ⟨s5, ?_, n5, h5⟩
  unfold zf_S_feed
  rw [if_pos hc, e1, zq_dr, e2, zq_dr, e3, zq_dr, e4, zq_dr, e5, zq_dr, n5]
theorem yfe_k : ∀ k, k < 20 → (nI k / 4 : Int32) = nI (k / 4) ∧ (24 - 8 * (nI k - nI k / 4 * 4) : Int32) = nI (24 - 8 * (k % 4)) := by decide
theorem yfe_l (hn : n + 20 ≤ 1600) {τ : zs_S} : ∀ (j k m : Nat) (τ' : zs_S), k + j = 20 → zs_i τ' 1 1 = nI n → j < m → yfe (yfb a b c d e) n k τ τ' → ∃ τ'' : zs_S, zf_M_feed_46 F a b c d e m (nI k) τ' = some (nI (n + 20), τ'') ∧ zs_i τ'' 1 1 = nI (n + 20) ∧ yfe (yfb a b c d e) n 20 τ τ'' := by
  intro j
  induction j with
  | zero =>
    intro k m τ' hk h hm hy
    obtain ⟨m, rfl⟩ : ∃ q, m = q + 1 := ⟨m - 1, by omega⟩
    have hk : k = 20 := by omega
    subst hk
    refine ⟨zs_wi τ' 1 1 (nI (n + 20)), ?_, yt_ie _ _ _ _, yfe_t hy⟩
    rw [zf_M_feed_46, if_pos (by decide), h, show (20 : Int32) = nI 20 by decide, nI_add, yq_v, yt_ie]
  | succ j ih =>
    intro k m τ' hk h hm hy
    obtain ⟨m, rfl⟩ : ∃ q, m = q + 1 := ⟨m - 1, by omega⟩
    obtain ⟨g1, g2⟩ := yfe_k k (by omega)
    obtain ⟨τ'', f1, f2, f3⟩ := ih (k + 1) m (zs_wi τ' 2 (n + k) (yfb a b c d e k)) (by omega) ((yt_in _ _ (by omega)).trans h) (by omega) (yfe_w hy rfl)
    refine ⟨τ'', ?_, f2, f3⟩
    rw [zf_M_feed_46, if_neg (by rw [show (20 : Int32) = nI 20 by decide]; exact nI_ge (by omega) (by omega)), g2, g1, zp_b (show k / 4 < 5 by omega) (by decide), yq_g, h, nI_add, zp_b (show n + k < 1600 by omega) (by decide), yq_g, yq_v, nI_clamp (by omega), nI_clamp (by omega), yq_v, nI_1]
    exact f1
theorem yfe_M {τ : zs_S} (h : zs_i τ 1 1 = nI n) (hn : n + 20 ≤ 1600) : ∃ τ' : zs_S, zf_M_feed (F + 21) a b c d e τ = some (nI (n + 20), τ') ∧ zs_i τ' 1 1 = nI (n + 20) ∧ yfe (yfb a b c d e) n 20 τ τ' := by
  have hc : zs_i τ 1 1 + 20 ≤ 1600 := by
    rw [h, show (20 : Int32) = nI 20 by decide, nI_add, show (1600 : Int32) = nI 1600 by decide]
    exact nI_le hn (by omega)
  unfold zf_M_feed
  rw [if_pos hc]
  exact yfe_l (F := F + 21) hn 20 0 (F + 21) τ (by omega) h (by omega) (yfe_0 _ τ)
/-- the bytes' values -/
theorem yfe_v {B : Nat → Int32} (hB : ∀ j, yb8 (B j)) : ∃ w : Nat → Nat, ∀ j, w j < 256 ∧ B j = yby (w j) := by
  refine ⟨fun j => (yby_of (hB j)).choose, fun j => (yby_of (hB j)).choose_spec⟩
theorem yfe_P {B : Nat → Int32} {w v : Nat → Nat} {σ σ' : zs_S} (hw : ∀ j, w j < 256 ∧ B j = yby (w j)) (hn : n + 20 ≤ 1600) (h : yx_TP v n σ) (hy : yfe B n 20 σ σ') : yx_TP (fun j => if j < n then v j else w (j - n)) (n + 20) σ' := by
  refine ⟨hn, fun j hj => ?_⟩
  by_cases hjn : j < n
  · show (if j < n then v j else w (j - n)) < 256 ∧ zs_i σ' 2 j = yby (if j < n then v j else w (j - n))
    rw [if_pos hjn, hy.1 j hjn]
    exact h.2 j hjn
  · show (if j < n then v j else w (j - n)) < 256 ∧ zs_i σ' 2 j = yby (if j < n then v j else w (j - n))
    rw [if_neg hjn]
    have g := hy.2.1 (j - n) (by omega)
    rw [show n + (j - n) = j by omega] at g
    rw [g]
    exact hw (j - n)
/-- what a call that leaves programs and states alone leaves -/
theorem yEF {σ τ σ' τ' : zs_S} {p q : Nat} (hp : yPP p) (hq : yQQ q) (h1 : ∀ o k, (10 ≤ o ∧ o ≤ 19) ∨ (p ≤ o ∧ o < p + 58) → zs_i σ' o k = zs_i σ o k) (h2 : ∀ o k, zs_r σ' o k = zs_r σ o k) (h3 : ∀ o k, (o = 1 ∧ (k = 4 ∨ k = 23 ∨ k = 24)) ∨ (58 ≤ o ∧ o ≤ 63) ∨ (q ≤ o ∧ o < q + 27) → zs_i τ' o k = zs_i τ o k) (h : yEm σ τ p ∨ yFu σ τ p q) : yEm σ' τ' p ∨ yFu σ' τ' p q := by
  rcases h with ⟨a1, ⟨a2, a3, a4, a5⟩, a6, a7⟩ | h
  · exact Or.inl ⟨(h1 _ _ (by omega)).trans a1, ⟨(h1 _ _ (by omega)).trans a2, (h1 _ _ (by omega)).trans a3, (h1 _ _ (by omega)).trans a4, (h1 _ _ (by omega)).trans a5⟩, (h3 _ _ (by omega)).trans a6, (h3 _ _ (by omega)).trans a7⟩
  · exact Or.inr (yFu_F hp hq h1 (fun o k _ => h2 o k) h3 h)
theorem yIp {p p' : Nat} (h : (p = 20 ∧ p' = 79) ∨ (p = 79 ∧ p' = 20)) : yPP p := by
  rcases h with ⟨e, -⟩ | ⟨e, -⟩
  · exact Or.inl e
  · exact Or.inr e
theorem yIq {q q' : Nat} (h : (q = 3 ∧ q' = 30) ∨ (q = 30 ∧ q' = 3)) : yQQ q := by
  rcases h with ⟨e, -⟩ | ⟨e, -⟩
  · exact Or.inl e
  · exact Or.inr e
theorem yy_feed {σ τ : zs_S} (hF : 30 < F) (h : yIv σ τ) : ∃ (r : Int32) (σ' τ' : zs_S), zf_S_feed F a b c d e σ = some (r, σ') ∧ zf_M_feed F a b c d e τ = some (r, τ') ∧ yIv σ' τ' := by
  have hI := h
  obtain ⟨n, v, p, p', q, q', ht1, ht2, ⟨hn1, hn2⟩, hpp, hqq, ⟨hr6, hr7, hr2, hr3⟩, hin⟩ := h
  by_cases hn : n + 20 ≤ 1600
  · obtain ⟨f, rfl⟩ : ∃ f, F = f + 21 := ⟨F - 21, by omega⟩
    obtain ⟨σ', s1, s2, s3⟩ := yfe_S (F := f + 16) (a := a) (b := b) (c := c) (d := d) (e := e) hn1 hn
    obtain ⟨τ', t1, t2, t3⟩ := yfe_M (F := f) (a := a) (b := b) (c := c) (d := d) (e := e) hn2 hn
    obtain ⟨w, hw⟩ := yfe_v (B := yfb a b c d e) (fun j => yfb_8 j)
    have hp := yIp hpp
    have hq := yIq hqq
    have hp1 : 20 ≤ p := by omega
    have hq1 : 3 ≤ q := by omega
    refine ⟨_, σ', τ', s1, t1, n + 20, _, p, p', q, q', yfe_P hw hn ht1 s3, yfe_P hw hn ht2 t3, ⟨s2, t2⟩, hpp, hqq, ⟨(s3.2.2.2 _ _).trans hr6, (s3.2.2.2 _ _).trans hr7, (t3.2.2.2 _ _).trans hr2, (t3.2.2.2 _ _).trans hr3⟩, yEF hp hq (fun o k w => s3.2.2.1 o k (by omega) (by omega)) s3.2.2.2 (fun o k w => t3.2.2.1 o k (by omega) (by omega)) hin⟩
  · exact ⟨_, σ, τ, zp_S_full hn1 (by omega) ht1.1, zp_M_full hn2 (by omega) ht1.1, hI⟩
theorem yy_end {σ τ : zs_S} (h : yIv σ τ) : ∃ (r : Int32) (σ' τ' : zs_S), zf_S_end F a σ = some (r, σ') ∧ zf_M_end F a τ = some (r, τ') ∧ yIv σ' τ' := by
  have hI := h
  obtain ⟨n, v, p, p', q, q', ht1, ht2, ⟨hn1, hn2⟩, hpp, hqq, ⟨hr6, hr7, hr2, hr3⟩, hin⟩ := h
  obtain ⟨r, σ', τ', s1, t1, hc⟩ := zp_end (F := F) (a := a) (hn2.trans hn1.symm)
  refine ⟨r, σ', τ', s1, t1, ?_⟩
  rcases hc with ⟨-, e1, e2⟩ | ⟨-, g1, g2, e1, e2⟩
  · rw [e1, e2]
    exact hI
  · have hp := yIp hpp
    have hq := yIq hqq
    have hp1 : 20 ≤ p := by omega
    have hq1 : 3 ≤ q := by omega
    obtain ⟨j, hj, e⟩ := nI_of g1
    have hn := ht1.1
    have hjn : j ≤ n := by
      rw [e, hn1] at g2
      exact Nat.le_of_not_lt (fun w => nI_ge w (by omega) g2)
    rw [e1, e2]
    refine ⟨j, v, p, p', q, q', ⟨by omega, fun i hi => ?_⟩, ⟨by omega, fun i hi => ?_⟩, ⟨?_, ?_⟩, hpp, hqq, ⟨hr6, hr7, hr2, hr3⟩, yEF hp hq (fun o k w => yt_in _ _ (by omega)) (fun _ _ => rfl) (fun o k w => yt_in _ _ (by omega)) hin⟩
    · rw [yt_in _ _ (by omega)]
      exact ht1.2 i (by omega)
    · rw [yt_in _ _ (by omega)]
      exact ht2.2 i (by omega)
    · rw [yt_ie, e]
    · rw [yt_ie, e]
end YFE
