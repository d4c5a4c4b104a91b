/-! the parser: what is fixed, and its leaves -/
section YPA
theorem yt_ie (σ : zs_S) (o k : Nat) (v : Int32) : zs_i (zs_wi σ o k v) o k = v := by rw [yt_ii, if_pos ⟨rfl, rfl⟩]
theorem yt_in (σ : zs_S) {o k a b : Nat} (v : Int32) (h : ¬ (a = o ∧ b = k)) : zs_i (zs_wi σ o k v) a b = zs_i σ a b := by rw [yt_ii, if_neg h]
theorem yt_re (σ : zs_S) (o k v : Nat) : zs_r (zs_wr σ o k v) o k = v := by rw [yt_rr, if_pos ⟨rfl, rfl⟩]
theorem yt_rn (σ : zs_S) {o k a b : Nat} (v : Nat) (h : ¬ (a = o ∧ b = k)) : zs_r (zs_wr σ o k v) a b = zs_r σ a b := by rw [yt_rr, if_neg h]
theorem yt_le (σ : zs_S) (o k : Nat) (v : Int64) : zs_l (zs_wl σ o k v) o k = v := by rw [yt_ll, if_pos ⟨rfl, rfl⟩]
theorem yt_ln (σ : zs_S) {o k a b : Nat} (v : Int64) (h : ¬ (a = o ∧ b = k)) : zs_l (zs_wl σ o k v) a b = zs_l σ a b := by rw [yt_ll, if_neg h]
theorem yn_12 {q : Nat} (h : q < 1200) : decide (q < 1200) = true := decide_eq_true h
theorem yn_n {q : Nat} (h : q ≠ 0) : zq_n q = true := decide_eq_true h
theorem yn_t {q : Nat} (h : 1000 ≤ q) (h2 : q < 1037) : zq_t q = true := by
  unfold zq_t
  rw [decide_eq_true h, decide_eq_true h2]
  rfl
theorem yn_ne2 {x : Nat} (h : x < 2 ^ 31) : ¬ nI x = -2 := by
  intro e
  have := congrArg Int32.toInt e
  rw [nI_toInt h] at this
  have h2 : (-2 : Int32).toInt = -2 := by decide
  omega
theorem yn_m1 {x : Nat} (h : x < 2 ^ 31) : ¬ nI x = -1 := by
  intro e
  have := congrArg Int32.toInt e
  rw [nI_toInt h] at this
  have h2 : (-1 : Int32).toInt = -1 := by decide
  omega
theorem yz_0 : zq_z 0 = true := by decide
theorem yz_1 : zq_z 1 = true := by decide
def yPP (p : Nat) : Prop := p = 20 ∨ p = 79
def yQQ (q : Nat) : Prop := q = 3 ∨ q = 30
theorem ys_k3 : zq_k 0 3 11 = true := by decide
theorem ys_r0 : zd_rf 0 3 0 = 4 := by decide
theorem ys_r1 : zd_rf 0 3 1 = 5 := by decide
theorem ys_r2 : zd_rf 0 3 2 = 6 := by decide
theorem ys_k4 : zq_k 0 4 4 = true := by decide
theorem ys_z4 : (zd_sh 0 4).2 = 1601 := by decide
theorem ys_k5 : zq_k 0 5 0 = true := by decide
theorem ys_z5 : (zd_sh 0 5).2 = 1601 := by decide
theorem ys_k6 : zq_k 0 6 3 = true := by decide
theorem ys_z6 : (zd_sh 0 6).2 = 1601 := by decide
theorem yp_k {p : Nat} (hp : yPP p) : zq_k 0 p 15 = true := by
  rcases hp with rfl | rfl <;> decide
theorem yp_r4 {p : Nat} (hp : yPP p) : zd_rf 0 p 4 = p + 1 := by
  rcases hp with rfl | rfl <;> decide
theorem yp_r5 {p : Nat} (hp : yPP p) : zd_rf 0 p 5 = p + 2 := by
  rcases hp with rfl | rfl <;> decide
theorem yp_r6 {p : Nat} (hp : yPP p) : zd_rf 0 p 6 = p + 3 := by
  rcases hp with rfl | rfl <;> decide
theorem yp_r7 {p : Nat} (hp : yPP p) : zd_rf 0 p 7 = p + 4 := by
  rcases hp with rfl | rfl <;> decide
theorem yp_r8 {p : Nat} (hp : yPP p) : zd_rf 0 p 8 = p + 55 := by
  rcases hp with rfl | rfl <;> decide
theorem yp_k1 {p : Nat} (hp : yPP p) : zq_k 0 (p + 1) 0 = true := by
  rcases hp with rfl | rfl <;> decide
theorem yp_z1 {p : Nat} (hp : yPP p) : (zd_sh 0 (p + 1)).2 = 8 := by
  rcases hp with rfl | rfl <;> decide
theorem yp_k2 {p : Nat} (hp : yPP p) : zq_k 0 (p + 2) 0 = true := by
  rcases hp with rfl | rfl <;> decide
theorem yp_z2 {p : Nat} (hp : yPP p) : (zd_sh 0 (p + 2)).2 = 4 := by
  rcases hp with rfl | rfl <;> decide
theorem yp_k3 {p : Nat} (hp : yPP p) : zq_k 0 (p + 3) 0 = true := by
  rcases hp with rfl | rfl <;> decide
theorem yp_z3 {p : Nat} (hp : yPP p) : (zd_sh 0 (p + 3)).2 = 4 := by
  rcases hp with rfl | rfl <;> decide
theorem yp_k4 {p : Nat} (hp : yPP p) : zq_k 0 (p + 4) 5 = true := by
  rcases hp with rfl | rfl <;> decide
theorem yp_z4 {p : Nat} (hp : yPP p) : (zd_sh 0 (p + 4)).2 = 50 := by
  rcases hp with rfl | rfl <;> decide
theorem yp_k55 {p : Nat} (hp : yPP p) : zq_k 0 (p + 55) 17 = true := by
  rcases hp with rfl | rfl <;> decide
theorem yp_c0 {p : Nat} (hp : yPP p) : zd_rf 0 (p + 55) 0 = p + 56 := by
  rcases hp with rfl | rfl <;> decide
theorem yp_c1 {p : Nat} (hp : yPP p) : zd_rf 0 (p + 55) 1 = p + 57 := by
  rcases hp with rfl | rfl <;> decide
theorem yp_c2 {p : Nat} (hp : yPP p) : zd_rf 0 (p + 55) 2 = p + 58 := by
  rcases hp with rfl | rfl <;> decide
theorem yp_k56 {p : Nat} (hp : yPP p) : zq_k 0 (p + 56) 4 = true := by
  rcases hp with rfl | rfl <;> decide
theorem yp_z56 {p : Nat} (hp : yPP p) : (zd_sh 0 (p + 56)).2 = 1600 := by
  rcases hp with rfl | rfl <;> decide
theorem yp_k57 {p : Nat} (hp : yPP p) : zq_k 0 (p + 57) 0 = true := by
  rcases hp with rfl | rfl <;> decide
theorem yp_z57 {p : Nat} (hp : yPP p) : (zd_sh 0 (p + 57)).2 = 1600 := by
  rcases hp with rfl | rfl <;> decide
theorem yp_k58 {p : Nat} (hp : yPP p) : zq_k 0 (p + 58) 0 = true := by
  rcases hp with rfl | rfl <;> decide
theorem yp_z58 {p : Nat} (hp : yPP p) : (zd_sh 0 (p + 58)).2 = 150 := by
  rcases hp with rfl | rfl <;> decide
theorem yv_k {q : Nat} (hq : yQQ q) : zq_k 1 q 19 = true := by
  rcases hq with rfl | rfl <;> decide
theorem yv_r0 {q : Nat} (hq : yQQ q) : zd_rf 1 q 0 = q + 1 := by
  rcases hq with rfl | rfl <;> decide
theorem yv_r1 {q : Nat} (hq : yQQ q) : zd_rf 1 q 1 = q + 4 := by
  rcases hq with rfl | rfl <;> decide
theorem yv_r2 {q : Nat} (hq : yQQ q) : zd_rf 1 q 2 = q + 7 := by
  rcases hq with rfl | rfl <;> decide
theorem yv_r3 {q : Nat} (hq : yQQ q) : zd_rf 1 q 3 = q + 8 := by
  rcases hq with rfl | rfl <;> decide
theorem yv_r4 {q : Nat} (hq : yQQ q) : zd_rf 1 q 4 = q + 9 := by
  rcases hq with rfl | rfl <;> decide
theorem yv_r7 {q : Nat} (hq : yQQ q) : zd_rf 1 q 7 = q + 10 := by
  rcases hq with rfl | rfl <;> decide
theorem yv_r8 {q : Nat} (hq : yQQ q) : zd_rf 1 q 8 = q + 11 := by
  rcases hq with rfl | rfl <;> decide
theorem yv_r9 {q : Nat} (hq : yQQ q) : zd_rf 1 q 9 = q + 12 := by
  rcases hq with rfl | rfl <;> decide
theorem yv_r10 {q : Nat} (hq : yQQ q) : zd_rf 1 q 10 = q + 13 := by
  rcases hq with rfl | rfl <;> decide
theorem yv_r11 {q : Nat} (hq : yQQ q) : zd_rf 1 q 11 = q + 14 := by
  rcases hq with rfl | rfl <;> decide
theorem yv_k1 {q : Nat} (hq : yQQ q) : zq_k 1 (q + 1) 20 = true := by
  rcases hq with rfl | rfl <;> decide
theorem yv_k4 {q : Nat} (hq : yQQ q) : zq_k 1 (q + 4) 20 = true := by
  rcases hq with rfl | rfl <;> decide
theorem yv_a0 {q : Nat} (hq : yQQ q) : zd_rf 1 (q + 1) 0 = q + 2 := by
  rcases hq with rfl | rfl <;> decide
theorem yv_a1 {q : Nat} (hq : yQQ q) : zd_rf 1 (q + 1) 1 = q + 3 := by
  rcases hq with rfl | rfl <;> decide
theorem yv_b0 {q : Nat} (hq : yQQ q) : zd_rf 1 (q + 4) 0 = q + 5 := by
  rcases hq with rfl | rfl <;> decide
theorem yv_b1 {q : Nat} (hq : yQQ q) : zd_rf 1 (q + 4) 1 = q + 6 := by
  rcases hq with rfl | rfl <;> decide
theorem yv_k3 {q : Nat} (hq : yQQ q) : zq_k 1 (q + 3) 0 = true := by
  rcases hq with rfl | rfl <;> decide
theorem yv_z3 {q : Nat} (hq : yQQ q) : (zd_sh 1 (q + 3)).2 = 8 := by
  rcases hq with rfl | rfl <;> decide
theorem yv_k6 {q : Nat} (hq : yQQ q) : zq_k 1 (q + 6) 0 = true := by
  rcases hq with rfl | rfl <;> decide
theorem yv_z6 {q : Nat} (hq : yQQ q) : (zd_sh 1 (q + 6)).2 = 4 := by
  rcases hq with rfl | rfl <;> decide
theorem yv_k7 {q : Nat} (hq : yQQ q) : zq_k 1 (q + 7) 6 = true := by
  rcases hq with rfl | rfl <;> decide
theorem yv_z7 {q : Nat} (hq : yQQ q) : (zd_sh 1 (q + 7)).2 = 4 := by
  rcases hq with rfl | rfl <;> decide
theorem yv_k8 {q : Nat} (hq : yQQ q) : zq_k 1 (q + 8) 0 = true := by
  rcases hq with rfl | rfl <;> decide
theorem yv_z8 {q : Nat} (hq : yQQ q) : (zd_sh 1 (q + 8)).2 = 8 := by
  rcases hq with rfl | rfl <;> decide
theorem yv_k9 {q : Nat} (hq : yQQ q) : zq_k 1 (q + 9) 0 = true := by
  rcases hq with rfl | rfl <;> decide
theorem yv_z9 {q : Nat} (hq : yQQ q) : (zd_sh 1 (q + 9)).2 = 4 := by
  rcases hq with rfl | rfl <;> decide
theorem yv_k10 {q : Nat} (hq : yQQ q) : zq_k 1 (q + 10) 0 = true := by
  rcases hq with rfl | rfl <;> decide
theorem yv_z10 {q : Nat} (hq : yQQ q) : (zd_sh 1 (q + 10)).2 = 50 := by
  rcases hq with rfl | rfl <;> decide
theorem yv_k11 {q : Nat} (hq : yQQ q) : zq_k 1 (q + 11) 0 = true := by
  rcases hq with rfl | rfl <;> decide
theorem yv_z11 {q : Nat} (hq : yQQ q) : (zd_sh 1 (q + 11)).2 = 50 := by
  rcases hq with rfl | rfl <;> decide
theorem yv_k12 {q : Nat} (hq : yQQ q) : zq_k 1 (q + 12) 0 = true := by
  rcases hq with rfl | rfl <;> decide
theorem yv_z12 {q : Nat} (hq : yQQ q) : (zd_sh 1 (q + 12)).2 = 50 := by
  rcases hq with rfl | rfl <;> decide
theorem yv_k13 {q : Nat} (hq : yQQ q) : zq_k 1 (q + 13) 0 = true := by
  rcases hq with rfl | rfl <;> decide
theorem yv_z13 {q : Nat} (hq : yQQ q) : (zd_sh 1 (q + 13)).2 = 150 := by
  rcases hq with rfl | rfl <;> decide
theorem yv_k14 {q : Nat} (hq : yQQ q) : zq_k 1 (q + 14) 0 = true := by
  rcases hq with rfl | rfl <;> decide
theorem yv_z14 {q : Nat} (hq : yQQ q) : (zd_sh 1 (q + 14)).2 = 6400 := by
  rcases hq with rfl | rfl <;> decide
theorem yp_s {p k : Nat} (hp : yPP p) (h : k < 50) : zd_rf 0 (p + 4) k = p + 5 + k := by
  have h1 : ∀ k, k < 50 → zd_rf 0 (20 + 4) k = 20 + 5 + k := by decide +kernel
  have h2 : ∀ k, k < 50 → zd_rf 0 (79 + 4) k = 79 + 5 + k := by decide +kernel
  rcases hp with rfl | rfl
  · exact h1 k h
  · exact h2 k h
theorem yp_sk {p k : Nat} (hp : yPP p) (h : k < 50) : zq_k 0 (p + 5 + k) 16 = true := by
  have h1 : ∀ k, k < 50 → zq_k 0 (20 + 5 + k) 16 = true := by decide +kernel
  have h2 : ∀ k, k < 50 → zq_k 0 (79 + 5 + k) 16 = true := by decide +kernel
  rcases hp with rfl | rfl
  · exact h1 k h
  · exact h2 k h
/-- a Names of the reference with R rows -/
def yNM (o R : Nat) : Prop := zq_k 1 o 20 = true ∧ zd_rf 1 o 0 = o + 1 ∧ zd_rf 1 o 1 = o + 2 ∧ zq_k 1 (o + 1) 1 = true ∧ (zd_sh 1 (o + 1)).2 = 8 * R ∧ zq_k 1 (o + 2) 0 = true ∧ (zd_sh 1 (o + 2)).2 = R ∧ 4 ≤ o ∧ o ≤ 54
theorem yv_nv {q : Nat} (hq : yQQ q) : yNM (q + 1) 8 := by
  unfold yNM
  rcases hq with rfl | rfl <;> decide
theorem yv_nl {q : Nat} (hq : yQQ q) : yNM (q + 4) 4 := by
  unfold yNM
  rcases hq with rfl | rfl <;> decide
theorem yv_nt {q t : Nat} (hq : yQQ q) (ht : t < 4) : yNM (q + 15 + 3 * t) 3 ∧ zd_rf 1 (q + 7) t = q + 15 + 3 * t := by
  have h1 : ∀ t, t < 4 → yNM (3 + 15 + 3 * t) 3 ∧ zd_rf 1 (3 + 7) t = 3 + 15 + 3 * t := by unfold yNM; decide
  have h2 : ∀ t, t < 4 → yNM (30 + 15 + 3 * t) 3 ∧ zd_rf 1 (30 + 7) t = 30 + 15 + 3 * t := by unfold yNM; decide
  rcases hq with rfl | rfl
  · exact h1 t ht
  · exact h2 t ht
/-- the tape's tokens: the last one is m -/
def yB (v : Nat → Nat) (n m : Nat) : Prop := n ≤ 1600 ∧ (∀ x, x < n → v x < 256) ∧ (yx_c v n m = 1000 ∨ yx_c v n m = 1001) ∧ (∀ x, x < m → yx_c v n x ≠ 1000 ∧ yx_c v n x ≠ 1001)
theorem yB_m {v : Nat → Nat} {n m : Nat} (h : yB v n m) : m ≤ 1600 := by
  have := yx_pn2 h.2.1 m h.2.2.2
  have := h.1
  omega
theorem yB_p {v : Nat → Nat} {n m i : Nat} (h : yB v n m) (hi : i ≤ m) : i ≤ yx_ps v n i ∧ yx_ps v n i ≤ n := yx_pn2 h.2.1 i (fun x hx => h.2.2.2 x (by omega))
theorem yB_t {v : Nat → Nat} {n m : Nat} (h : yB v n m) (i : Nat) : 1000 ≤ yx_c v n i ∧ yx_c v n i < 1037 ∧ yx_c v n i ≠ 1004 := by
  rcases yx_tkx (v := v) (n := n) (j := yx_ps v n i) h.2.1 with h | ⟨-, -, -, -, h⟩
  · unfold yx_c
    omega
  · unfold yx_c
    omega
theorem yB_lt {v : Nat → Nat} {n m i : Nat} (h : yB v n m) (hi : i ≤ m) (h0 : yx_c v n i ≠ 1000) (h1 : yx_c v n i ≠ 1001) : i < m := by
  by_cases e : i = m
  · subst e
    rcases h.2.2.1 with q | q
    · exact absurd q h0
    · exact absurd q h1
  · omega
/-- the class's parser stands at token i, without a fault -/
def yP (v : Nat → Nat) (n m p i : Nat) (σ : zs_S) : Prop := zs_r σ 7 4 = 3 ∧ zs_r σ 7 7 = p ∧ zs_i σ 7 8 = -2 ∧ zs_i σ 7 5 = nI i ∧ zs_r σ 7 6 = yx_c v n i ∧ i ≤ m ∧ yx_rows v n (m + 1) σ
/-- .. after a fault -/
def yK (p : Nat) (f : Int32) (σ : zs_S) : Prop := zs_r σ 7 4 = 3 ∧ zs_r σ 7 7 = p ∧ zs_i σ 7 8 = f ∧ ¬ f = -2 ∧ zs_r σ 7 6 = 1001
theorem yx_rowsF {v : Nat → Nat} {n i : Nat} {σ σ' : zs_S} (h : yx_rows v n i σ) (h4 : ∀ k, zs_r σ' 4 k = zs_r σ 4 k) (h5 : ∀ k, zs_i σ' 5 k = zs_i σ 5 k) (h6 : ∀ k, zs_l σ' 6 k = zs_l σ 6 k) : yx_rows v n i σ' := fun x hx => ⟨(h4 x).trans (h x hx).1, (h5 x).trans (h x hx).2.1, fun q => (h6 x).trans ((h x hx).2.2 q)⟩
def yadv (v : Nat → Nat) (n i : Nat) (σ : zs_S) : zs_S := zs_wr (zs_wi σ 7 5 (nI (i + 1))) 7 6 (yx_c v n (i + 1))
def yfl (v : Nat → Nat) (n i : Nat) (σ : zs_S) : zs_S := zs_wr (zs_wi σ 7 8 (nI (yx_ps v n i))) 7 6 1001
theorem yy_adv {F n m p i : Nat} {v : Nat → Nat} {σ : zs_S} (hB : yB v n m) (h : yP v n m p i σ) (hi : i < m) : zf_Parser_advance F σ = some (yadv v n i σ) ∧ yP v n m p (i + 1) (yadv v n i σ) := by
  obtain ⟨h1, h2, h3, h4, h5, h6, h7⟩ := h
  have hm := yB_m hB
  have hc := yB_t hB (i + 1)
  have hr := (h7 (i + 1) (by omega)).1
  have hr : zs_r σ 4 (i + 1) = yx_c v n (i + 1) := hr
  constructor
  · unfold zf_Parser_advance zf_Parser_advance_45 yadv
    rw [if_pos h3, h4, show (1600 : Int32) = nI 1600 from rfl, if_neg (nI_ge (by omega) (by omega))]
    simp (disch := omega) only [zq_v, nI_1, yt_ri, h1, zq_qr, ys_k3, zq_gr, ys_r0, ys_k4, ys_z4, yt_ie, yn_b, nI_clamp, hr]
  · refine ⟨?_, ?_, ?_, ?_, ?_, hi, ?_⟩
    · exact h1
    · exact h2
    · exact h3
    · rfl
    · rfl
    · exact yx_rowsF h7 (fun k => by unfold yadv; simp (disch := omega) only [yt_rn, yt_ri]) (fun k => by unfold yadv; simp (disch := omega) only [yt_ir, yt_in]) (fun k => rfl)
theorem yy_fail {F n m p i : Nat} {v : Nat → Nat} {σ : zs_S} (hB : yB v n m) (h : yP v n m p i σ) : zf_Parser_fail F σ = some (yfl v n i σ) ∧ yK p (nI (yx_ps v n i)) (yfl v n i σ) := by
  obtain ⟨h1, h2, h3, h4, h5, h6, h7⟩ := h
  have hm := yB_m hB
  have hp := yB_p hB h6
  have hn := hB.1
  have hr := (h7 i (by omega)).2.1
  constructor
  · unfold zf_Parser_fail zf_Parser_fail_25 yfl
    rw [if_pos h3]
    simp (disch := omega) only [zq_v, h1, h4, zq_qr, ys_k3, zq_gr, ys_r1, ys_k5, ys_z5, yn_b, nI_clamp, hr]
  · exact ⟨h1, h2, rfl, yn_ne2 (by omega), rfl⟩
theorem yy_kfail {F p : Nat} {f : Int32} {σ : zs_S} (h : yK p f σ) : zf_Parser_fail F σ = some σ := by
  obtain ⟨h1, h2, h3, h4, h5⟩ := h
  unfold zf_Parser_fail zf_Parser_fail_25
  rw [if_neg (by rw [h3]; exact h4)]
  show some (zs_wr σ 7 6 1001) = some σ
  rw [yt_rs h5]
theorem yy_kadv {F p : Nat} {f : Int32} {σ : zs_S} (h : yK p f σ) : zf_Parser_advance F σ = some σ := by
  obtain ⟨h1, h2, h3, h4, h5⟩ := h
  unfold zf_Parser_advance
  rw [if_neg (by rw [h3]; exact h4)]
  rfl
theorem yy_kexp {F p x : Nat} {f : Int32} {σ : zs_S} (h : yK p f σ) (hx : x ≠ 1001) (hx2 : x < 1200) : zf_Parser_expect F x σ = some σ := by
  have h5 := h.2.2.2.2
  unfold zf_Parser_expect
  rw [h5, zq_qr (by decide), decide_eq_true (by decide), zq_gr, decide_eq_true hx2, zq_gr, if_neg (fun e => hx e.symm), yy_kfail h]
  rfl
theorem yy_exp {F n m p i x : Nat} {v : Nat → Nat} {σ : zs_S} (hB : yB v n m) (h : yP v n m p i σ) (hc : yx_c v n i = x) (hx : x ≠ 1000) (hx1 : x ≠ 1001) : zf_Parser_expect F x σ = some (yadv v n i σ) ∧ yP v n m p (i + 1) (yadv v n i σ) := by
  have h5 := h.2.2.2.2.1
  have ht := yB_t hB i
  have hlt := yB_lt hB h.2.2.2.2.2.1 (by omega) (by omega)
  refine ⟨?_, (yy_adv (F := F) hB h hlt).2⟩
  unfold zf_Parser_expect
  rw [h5, zq_qr (by omega), decide_eq_true (by omega), zq_gr, decide_eq_true (by omega), zq_gr, if_pos hc, (yy_adv hB h hlt).1]
  rfl
theorem yy_nexp {F n m p i x : Nat} {v : Nat → Nat} {σ : zs_S} (hB : yB v n m) (h : yP v n m p i σ) (hc : yx_c v n i ≠ x) (hx : x < 1200) : zf_Parser_expect F x σ = some (yfl v n i σ) ∧ yK p (nI (yx_ps v n i)) (yfl v n i σ) := by
  have h5 := h.2.2.2.2.1
  have ht := yB_t hB i
  refine ⟨?_, (yy_fail (F := F) hB h).2⟩
  unfold zf_Parser_expect
  rw [h5, zq_qr (by omega), decide_eq_true (by omega), zq_gr, decide_eq_true (by omega), zq_gr, if_neg hc, (yy_fail hB h).1]
  rfl
theorem yy_addc {F p c g : Nat} {x : Int32} {σ : zs_S} (hp : yPP p) (h : zs_i σ (p + 55) 3 = nI c) (hc : c < 1600) (hg : 1000 ≤ g) (hg2 : g < 1037) : zf_Code_add F (p + 55) g x σ = some (zs_wi (zs_wi (zs_wr σ (p + 56) c g) (p + 57) c x) (p + 55) 3 (nI (c + 1))) := by
  unfold zf_Code_add zf_Code_add_40
  rw [yp_k55 hp, zq_gr, h, show (1600 : Int32) = nI 1600 from rfl, if_neg (nI_ge hc (by omega))]
  simp (disch := omega) only [zq_v, yp_c0 hp, yp_c1 hp, yp_k56 hp, yp_z56 hp, yp_k57 hp, yp_z57 hp, zq_qr, zq_gr, yn_b, nI_clamp, yn_t, yt_ir, yt_in, h, nI_1]
end YPA
