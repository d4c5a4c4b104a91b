/-! threads -/
section YTH
variable {F n m p q t V L T : Nat} {v : Nat → Nat}
/-- what is kept of a thread whose statements are lo .. hi - 1 -/
def yTP (σ τ : zs_S) (p q V L c e t T lo hi : Nat) : Prop := T ≤ 3 ∧ zs_i σ (p + 2) t = nI T ∧ zs_i τ (q + 15 + 3 * t) 2 = nI T ∧ zs_i σ (p + 3) t = zs_i τ (q + 9) t ∧ ((lo = hi ∧ zs_i σ (p + 3) t = -1) ∨ (lo < hi ∧ zs_i σ (p + 3) t = nI lo)) ∧ (∀ x, lo ≤ x → x < hi → yST σ τ p q t V L T c e x ∧ yD2 σ p (-1) lo hi x) ∧ (∀ g, yEq σ p (-1) (-1) g lo hi → ∀ x w, lo ≤ x → x < hi → w < 3 → yVl (zs_r σ (p + 5 + x) 0) w → zs_i τ (q + 13) (3 * x + w) = g x w)
theorem yTP_F {c e c' e' lo hi s : Nat} {σ τ σ' τ' : zs_S} (h : yTP σ τ p q V L c e t T lo hi) (hs : hi ≤ s) (h50 : s ≤ 50) (hc : c ≤ c') (he : e ≤ e') (h2 : zs_i σ' (p + 2) t = zs_i σ (p + 2) t) (h3 : zs_i σ' (p + 3) t = zs_i σ (p + 3) t) (hm : zs_i τ' (q + 15 + 3 * t) 2 = zs_i τ (q + 15 + 3 * t) 2) (h9 : zs_i τ' (q + 9) t = zs_i τ (q + 9) t) (ho : ∀ x k, x < s → zs_i σ' (p + 5 + x) k = zs_i σ (p + 5 + x) k) (hr : ∀ x, x < s → zs_r σ' (p + 5 + x) 0 = zs_r σ (p + 5 + x) 0) (hcd : ∀ k, k < c → zs_r σ' (p + 56) k = zs_r σ (p + 56) k ∧ zs_i σ' (p + 57) k = zs_i σ (p + 57) k) (ht : ∀ o x, x < s → o = q + 10 ∨ o = q + 11 ∨ o = q + 12 → zs_i τ' o x = zs_i τ o x) (hto : ∀ k, k < 3 * s → zs_i τ' (q + 13) k = zs_i τ (q + 13) k) (hst : ∀ k, k < e → zs_i τ' (q + 14) k = zs_i τ (q + 14) k) : yTP σ' τ' p q V L c' e' t T lo hi := by
  obtain ⟨a1, a2, a3, a4, a5, a6, a7⟩ := h
  refine ⟨a1, h2.trans a2, hm.trans a3, by rw [h3, h9]; exact a4, by rw [h3]; exact a5, fun x x1 x2 => ⟨?_, ?_⟩, fun g hE x w x1 x2 w1 vl => ?_⟩
  · exact yST_F (a6 x x1 x2).1 hc he (fun k _ => ho x k (by omega)) (hr x (by omega)) hcd (fun o ho => ht o x (by omega) ho) hst
  · obtain ⟨d1, d2, d3, d4⟩ := (a6 x x1 x2).2
    unfold yD2
    rw [ho x 1 (by omega), ho x 5 (by omega), ho x 6 (by omega), ho x 7 (by omega)]
    exact ⟨d1, d2, d3, d4⟩
  · rw [hto _ (by omega)]
    rw [hr x (by omega)] at vl
    refine a7 g (yEq_F (σ' := σ') (fun x x1 x2 => (a6 x x1 x2).2.1) (by omega) (fun x k x1 x2 _ => ho x k (by omega)) (fun x x1 x2 => hr x (by omega)) hE) x w x1 x2 w1 vl
/-- between threads -/
def yTh (F : Nat) (v : Nat → Nat) (n m p q V L tt : Nat) (B Tt : Nat → Nat) (i s a c e : Nat) (σ τ : zs_S) : Prop := (yB v n m ∧ yPP p ∧ yQQ q ∧ 1700 < F) ∧ yP v n m p i σ ∧ yM F v n m q i τ ∧ (zs_i σ p 3 = nI s ∧ zs_i τ q 6 = nI s ∧ s ≤ 50) ∧ (zs_i σ 7 9 = nI a ∧ zs_i τ 1 14 = nI a ∧ a ≤ 150) ∧ (zs_i σ (p + 55) 3 = nI c ∧ c ≤ i) ∧ (zs_i τ q 12 = nI e ∧ e ≤ 2 * c + s) ∧ (zs_i σ p 0 = nI V ∧ zs_i σ p 1 = nI L ∧ zs_i σ 7 3 = nI (V + L)) ∧ (∃ C K kv kl, yNS σ τ q V L C K kv kl) ∧ (zs_i σ p 2 = nI tt ∧ zs_i τ q 5 = nI tt ∧ tt ≤ 4) ∧ (∀ x, x < V → zs_i σ (p + 1) x = zs_i τ (q + 8) x ∧ yb8 (zs_i τ (q + 8) x)) ∧ (B 0 = 0 ∧ B tt = s ∧ ∀ t, t < tt → B t ≤ B (t + 1)) ∧ (∀ t, t < tt → yTP σ τ p q V L c e t (Tt t) (B t) (B (t + 1)))
theorem yTh_B {tt i s a c e : Nat} {B Tt : Nat → Nat} {σ τ : zs_S} (h : yTh F v n m p q V L tt B Tt i s a c e σ τ) {t : Nat} (ht : t ≤ tt) : B t ≤ s := by
  obtain ⟨-, -, -, -, -, -, -, -, -, -, -, ⟨-, h1, h2⟩, -⟩ := h
  have : ∀ d t, tt - t ≤ d → t ≤ tt → B t ≤ B tt := by
    intro d
    induction d with
    | zero => intro t h3 h4; rw [show t = tt by omega]; exact Nat.le_refl _
    | succ d ih =>
      intro t h3 h4
      by_cases h5 : t = tt
      · rw [h5]; exact Nat.le_refl _
      · exact Nat.le_trans (h2 t (by omega)) (ih (t + 1) (by omega) (by omega))
  rw [← h1]
  exact this _ t (Nat.le_refl _) ht
/-- the locals' loop -/
theorem yN_locs {i0 s a c e : Nat} {σ0 τ0 : zs_S} (hF : 1700 < F) (hp : yPP p) (hq : yQQ q) (ht : t < 4) : ∀ d T N M i σ τ, 4 - T ≤ d → d + 3 < N → d + 3 < M → yN F v n m p q t V L T i s a c e σ τ → zs_i σ (p + 2) t = nI T → i0 ≤ i → (∀ o k, ¬ (o = 7 ∧ (k = 2 ∨ 5 ≤ k)) → o ≠ 9 → ¬ (o = p + 2 ∧ k = t) → zs_i σ o k = zs_i σ0 o k) → (∀ o k, o ≠ 7 → zs_r σ o k = zs_r σ0 o k) → (∀ o k, o ≠ 8 → zs_l σ o k = zs_l σ0 o k) → zs_r σ 7 7 = zs_r σ0 7 7 → zs_r σ 7 4 = zs_r σ0 7 4 → (∀ o k, ¬ (o = 1 ∧ 6 ≤ k ∧ k ≤ 10) → ¬ (q + 15 + 3 * t ≤ o ∧ o ≤ q + 17 + 3 * t) → zs_i τ o k = zs_i τ0 o k) → (∀ o k, zs_r τ o k = zs_r τ0 o k) → (∃ σ' τ', zf_Parser_readThread_72 F N (nI t) (nI T) σ = some σ' ∧ zf_M_thread_82 F M (nI t) τ = some (0, τ') ∧ yKF p q σ0 τ0 σ' τ') ∨ (∃ T' M' i' σ' τ', zf_Parser_readThread_72 F N (nI t) (nI T) σ = zf_Parser_readThread_98 F (nI t) σ' ∧ zf_M_thread_82 F M (nI t) τ = zf_M_thread_82 F (M' + 1) (nI t) τ' ∧ yx_c v n i' ≠ 1008 ∧ i0 ≤ i' ∧ yN F v n m p q t V L T' i' s a c e σ' τ' ∧ zs_i σ' (p + 2) t = nI T' ∧ (∀ o k, ¬ (o = 7 ∧ (k = 2 ∨ 5 ≤ k)) → o ≠ 9 → ¬ (o = p + 2 ∧ k = t) → zs_i σ' o k = zs_i σ0 o k) ∧ (∀ o k, o ≠ 7 → zs_r σ' o k = zs_r σ0 o k) ∧ (∀ o k, o ≠ 8 → zs_l σ' o k = zs_l σ0 o k) ∧ zs_r σ' 7 7 = zs_r σ0 7 7 ∧ zs_r σ' 7 4 = zs_r σ0 7 4 ∧ (∀ o k, ¬ (o = 1 ∧ 6 ≤ k ∧ k ≤ 10) → ¬ (q + 15 + 3 * t ≤ o ∧ o ≤ q + 17 + 3 * t) → zs_i τ' o k = zs_i τ0 o k) ∧ (∀ o k, zs_r τ' o k = zs_r τ0 o k)) := by
  have hp2 := yPP_b hp
  have hq2 := yQQ_b hq
  intro d
  induction d with
  | zero =>
    intro T N M i σ τ a1 a2 a3 h hl hi0 w1 w2 w3 w4 w5 w6 w7
    obtain ⟨C, K, kv, kl, kt, hS, hT⟩ := h.2.2.2.2.2.2.2
    have := hT.1
    omega
  | succ d ih =>
    intro T N M i σ τ a1 a2 a3 h hl hi0 w1 w2 w3 w4 w5 w6 w7
    have hT3 : T ≤ 3 := by
      obtain ⟨C, K, kv, kl, kt, hS, hT⟩ := h.2.2.2.2.2.2.2
      exact hT.1
    obtain ⟨k1, k2, k3, k4, hA, -, -⟩ := yN_tok h
    obtain ⟨N, rfl⟩ : ∃ q, N = q + 1 := ⟨N - 1, by omega⟩
    obtain ⟨M, rfl⟩ : ∃ q, M = q + 1 := ⟨M - 1, by omega⟩
    by_cases hc : yx_c v n i = 1008
    · obtain ⟨σ', r, τ', e1, e2, hx⟩ := yN_loc hF h hc hl
      have ec : zf_Parser_readThread_72 F (N + 1) (nI t) (nI T) σ = zf_Parser_readThread_72 F N (nI t) (nI (T + 1)) σ' := by
        rw [zf_Parser_readThread_72, show (3 : Int32) = nI 3 from rfl, if_neg (nI_nlt hT3 (by omega)), k1, zq_qr (by omega), yn_12 (by omega), yq_g, if_pos hc, e1, yq_s, nI_1, yq_v]
      rw [ec, e2 M]
      rcases hx with ⟨hr, x1, i', x2, x3, x4, x5, x6, x7, x8, x9, x10, x11⟩ | ⟨hr, g1, g2, f, g3, g4, g5⟩
      · rw [hr, if_neg y01]
        exact ih (T + 1) N M i' σ' τ' (by omega) (by omega) (by omega) x3 x4 (by omega) (fun o k y1 y2 y3 => (x5 o k y1 y2 y3).trans (w1 o k y1 y2 y3)) (fun o k y1 => (x6 o k y1).trans (w2 o k y1)) (fun o k y1 => (x7 o k y1).trans (w3 o k y1)) (x8.trans w4) (x9.trans w5) (fun o k y1 y2 => (x10 o k y1 y2).trans (w6 o k y1 y2)) (fun o k => (x11 o k).trans (w7 o k))
      · rw [hr, if_pos y00]
        obtain ⟨σ2, j1, j2, j3⟩ := yk_72 (F := F) (t := t) (N := N) (x2 := nI (T + 1)) g4 hp (by omega) ht (by omega)
        refine Or.inl ⟨σ2, τ', j1, rfl, ?_⟩
        refine ⟨ygC_t ⟨fun o k x y => ⟨w1 o k (by omega) (by omega) (by omega), w2 o k (by omega), w3 o k (by omega)⟩, w4, w5⟩ (ygC_t g1 j3), ygM_t ⟨fun o k x y z => w6 o k (by omega) (by omega), fun o k _ => w7 o k⟩ g2, f, g3, j2, g5⟩
    · refine Or.inr ⟨T, M, i, σ, τ, ?_, rfl, hc, hi0, h, hl, w1, w2, w3, w4, w5, w6, w7⟩
      rw [zf_Parser_readThread_72, show (3 : Int32) = nI 3 from rfl, if_neg (nI_nlt hT3 (by omega)), k1, zq_qr (by omega), yn_12 (by omega), yq_g, if_neg hc]
end YTH
