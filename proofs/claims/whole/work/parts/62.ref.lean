/-! the reference's leaves: the next token, a fault, take, put, names -/
section YRA
theorem yn_mul (a b : Nat) : nI a * nI b = nI (a * b) := (Int32.ofNat_mul a b).symm
theorem yn_sub {a b : Nat} (h : b ≤ a) : nI a - nI b = nI (a - b) := by
  have e := nI_add (a - b) b
  rw [Nat.sub_add_cancel h] at e
  rw [← e, Int32.add_sub_cancel]
theorem yn_8 : (8 : Int32) = nI 8 := rfl
theorem yby_eq {a b : Nat} (ha : a < 128) (hb : b < 128) : (yby a = yby b) = (a = b) := by
  rw [yby_pos b hb]
  exact propext (yby_inj a (by omega) b hb)
/-- the reference stands at token i, without a fault -/
def yM (F : Nat) (v : Nat → Nat) (n m q i : Nat) (τ : zs_S) : Prop := yx_A F v n (yx_ps v n i) τ ∧ zs_i τ 1 5 = nI n ∧ zs_r τ 1 12 = q ∧ zs_i τ 1 11 = -1 ∧ i ≤ m
theorem yM_L {F n m q i : Nat} {v : Nat → Nat} {τ τ' : zs_S} (h : yM F v n m q i τ) (h2 : ∀ k, zs_i τ' 2 k = zs_i τ 2 k) (h1 : ∀ k, 5 ≤ k → k ≤ 11 → zs_i τ' 1 k = zs_i τ 1 k) (hr : zs_r τ' 1 12 = zs_r τ 1 12) : yM F v n m q i τ' := by
  obtain ⟨⟨⟨a1, a2⟩, ⟨b1, b2, b3, b4, b5⟩, c1, c2⟩, d1, d2, d3, d4⟩ := h
  exact ⟨⟨⟨a1, fun j hj => ⟨(a2 j hj).1, (h2 j).trans (a2 j hj).2⟩⟩, ⟨(h1 8 (by omega) (by omega)).trans b1, (h1 9 (by omega) (by omega)).trans b2, (h1 6 (by omega) (by omega)).trans b3, (h1 7 (by omega) (by omega)).trans b4, fun e => (h1 10 (by omega) (by omega)).trans (b5 e)⟩, c1, c2⟩, (h1 5 (by omega) (by omega)).trans d1, hr.trans d2, (h1 11 (by omega) (by omega)).trans d3, d4⟩
theorem ym_step {F n m q i : Nat} {v : Nat → Nat} {τ : zs_S} (hB : yB v n m) (h : yM F v n m q i τ) (hi : i < m) : yw (zf_M_step F τ) (fun τ' => yM F v n m q (i + 1) τ' ∧ ym_L τ τ') := by
  obtain ⟨⟨ht, ⟨b1, b2, b3, b4, b5⟩, c1, c2⟩, d1, d2, d3, d4⟩ := h
  have hc := hB.2.2.2 i hi
  obtain ⟨e1, e2⟩ := yx_en (v := v) (n := n) hB.2.1 c1 hc.1
  have e3 := e2 hc.2
  refine yw_m (yy_step ht d1 b3 e3 c2) (fun τ' hh => ?_)
  obtain ⟨g1, g2⟩ := hh
  refine ⟨⟨⟨⟨ht.1, fun j hj => ⟨(ht.2 j hj).1, (g2.1 2 j (by omega)).trans (ht.2 j hj).2⟩⟩, g1, ?_, c2⟩, (g2.1 1 5 (by omega)).trans d1, (g2.2 1 12).trans d2, (g2.1 1 11 (by omega)).trans d3, hi⟩, g2⟩
  exact (yB_p hB (show i + 1 ≤ m by omega)).2
theorem ym_bad {F n m q i : Nat} {v : Nat → Nat} {τ : zs_S} (h : yM F v n m q i τ) : zf_M_bad F τ = some (0, zs_wi τ 1 11 (nI (yx_ps v n i))) := by
  obtain ⟨⟨ht, ⟨b1, b2, b3, b4, b5⟩, c1, c2⟩, d1, d2, d3, d4⟩ := h
  unfold zf_M_bad zf_M_bad_15
  rw [d3, if_neg (by decide), b1]
  rfl
theorem ym_put {F q e : Nat} {x : Int32} {τ : zs_S} (hq : yQQ q) (hr : zs_r τ 1 12 = q) (he : zs_i τ q 12 = nI e) (h : e < 6400) : zf_M_put F x τ = some (zs_wi (zs_wi τ (q + 14) e x) q 12 (nI (e + 1))) := by
  have hq0 : q ≠ 0 := by rcases hq with rfl | rfl <;> decide
  unfold zf_M_put
  simp (disch := omega) only [zq_v, hr, zq_qr, yv_k hq, zq_gr, yv_r11 hq, yv_k14 hq, yv_z14 hq, he, yn_b, nI_clamp, yt_ri, yt_in, nI_1]
/-- a name's key -/
theorem ypk_lo {v : Nat → Nat} {j : Nat} (h0 : 0 < v j) : ∀ m, 256 ^ m ≤ yx_pn v j (m + 1) := by
  intro m
  induction m with
  | zero =>
    show 1 ≤ 0 * 256 + v (j + 0)
    rw [Nat.add_zero]
    omega
  | succ m ih =>
    have : yx_pn v j (m + 1 + 1) = yx_pn v j (m + 1) * 256 + v (j + (m + 1)) := rfl
    rw [this, Nat.pow_succ]
    exact Nat.le_trans (Nat.mul_le_mul_right 256 ih) (Nat.le_add_right _ _)
theorem ypk_len {v w : Nat → Nat} {j i a b : Nat} (hv : ∀ x, x < a → v (j + x) < 128) (hw : 0 < w i) (hb : 0 < b) (h : yx_pn v j a = yx_pn w i b) : b ≤ a := by
  obtain ⟨b, rfl⟩ : ∃ q, b = q + 1 := ⟨b - 1, by omega⟩
  have h1 := (yx_pn_lt (v := v) (j := j) a hv).1
  have h2 := ypk_lo (v := w) (j := i) hw b
  by_cases q : b + 1 ≤ a
  · exact q
  · have := Nat.pow_le_pow_right (show 0 < 256 by decide) (show a ≤ b by omega)
    omega
theorem ypk {v w : Nat → Nat} {j i a b : Nat} (hv : ∀ x, x < a → v (j + x) < 128) (hw : ∀ x, x < b → w (i + x) < 128) (hv0 : 0 < v j) (hw0 : 0 < w i) (ha : 0 < a) (hb : 0 < b) : yx_pn v j a = yx_pn w i b ↔ (a = b ∧ ∀ x, x < b → v (j + x) = w (i + x)) := by
  constructor
  · intro h
    have h1 := ypk_len hv hw0 hb h
    have h2 := ypk_len hw hv0 ha h.symm
    have h3 : a = b := by omega
    subst h3
    exact ⟨rfl, yx_pn_inj a (fun x hx => Nat.lt_trans (hv x hx) (by decide)) (fun x hx => Nat.lt_trans (hw x hx) (by decide)) h⟩
  · intro ⟨h1, h2⟩
    subst h1
    exact yx_pn_eq a h2
/-- the row x of a Names holds the key K -/
def yRK (τ : zs_S) (o x K : Nat) : Prop := ∃ (len : Nat) (w : Nat → Nat), 0 < len ∧ len ≤ 8 ∧ zs_i τ (o + 2) x = nI len ∧ (∀ i, i < len → w i < 128 ∧ zs_i τ (o + 1) (8 * x + i) = yby (w i)) ∧ 0 < w 0 ∧ K = yx_pn w 0 len
/-- a name stands at j, len bytes of it -/
def yTN (v : Nat → Nat) (n j len : Nat) : Prop := 0 < len ∧ len ≤ 8 ∧ j + len ≤ n ∧ (∀ x, x < len → v (j + x) < 128) ∧ 0 < v j
theorem yy_nf33 {F n o R x len j : Nat} {v w : Nat → Nat} {τ : zs_S} {k3 : Nat → Nat → Int32 → Int32 → Int32 → zs_S → Option (Int32 × zs_S)} (ho : yNM o R) (ht : yx_TP v n τ) (hT : yTN v n j len) (hx : x < R) (hR : R ≤ 8) (hw : ∀ i, i < len → w i < 128 ∧ zs_i τ (o + 1) (8 * x + i) = yby (w i)) : ∀ d y N, len - y ≤ d → y ≤ len → d < N → ∃ b : Int32, ((b = 1 ∧ ∀ z, y ≤ z → z < len → w z = v (j + z)) ∨ (b = 0 ∧ ¬ ∀ z, y ≤ z → z < len → w z = v (j + z))) ∧ zf_MN_find_33 F k3 N o 2 (nI j) (nI len) (nI x) 1 (nI y) τ = zf_MN_find_79 F k3 o 2 (nI j) (nI len) (nI x) b τ := by
  obtain ⟨o1, o2, o3, o4, o5, o6, o7, o8, o9⟩ := ho
  obtain ⟨t1, t2, t3, t4, t5⟩ := hT
  have hn := ht.1
  have hk2 : zq_k 1 2 1 = true := by decide
  have hs2 : (zd_sh 1 2).2 = 1600 := by decide
  intro d
  induction d with
  | zero =>
    intro y N h1 h2 h3
    obtain ⟨N, rfl⟩ : ∃ q, N = q + 1 := ⟨N - 1, by omega⟩
    refine ⟨1, Or.inl ⟨rfl, fun z h4 h5 => by omega⟩, ?_⟩
    rw [zf_MN_find_33, if_pos (nI_le (by omega) (by omega))]
  | succ d ih =>
    intro y N h1 h2 h3
    obtain ⟨N, rfl⟩ : ∃ q, N = q + 1 := ⟨N - 1, by omega⟩
    by_cases hy : y < len
    · obtain ⟨w1, w2⟩ := hw y hy
      have v1 := t4 y hy
      have v2 := (ht.2 (j + y) (by omega)).2
      have e1 : zf_MN_find_33 F k3 (N + 1) o 2 (nI j) (nI len) (nI x) 1 (nI y) τ = if w y = v (j + y) then zf_MN_find_71 F k3 (zf_MN_find_33 F k3 N) o 2 (nI j) (nI len) (nI x) (nI y) 1 τ else zf_MN_find_71 F k3 (zf_MN_find_33 F k3 N) o 2 (nI j) (nI len) (nI x) (nI y) 0 τ := by
        rw [zf_MN_find_33, if_neg (nI_ge hy (by omega)), if_neg (by decide)]
        simp (disch := omega) only [o1, o2, o4, o5, hk2, hs2, zq_gr, zq_qr, yn_8, yn_mul, nI_add, yn_b, nI_clamp, w2, v2, yby_eq]
      by_cases q : w y = v (j + y)
      · obtain ⟨b, b1, b2⟩ := ih (y + 1) N (by omega) (by omega) (by omega)
        refine ⟨b, ?_, ?_⟩
        · rcases b1 with ⟨c1, c2⟩ | ⟨c1, c2⟩
          · refine Or.inl ⟨c1, fun z h4 h5 => ?_⟩
            by_cases hz : z = y
            · subst hz
              exact q
            · exact c2 z (by omega) h5
          · exact Or.inr ⟨c1, fun h => c2 (fun z h4 h5 => h z (by omega) h5)⟩
        · rw [e1, if_pos q, ← b2]
          unfold zf_MN_find_71
          rw [nI_1]
          rfl
      · refine ⟨0, Or.inr ⟨rfl, fun h => q (h y (by omega) hy)⟩, ?_⟩
        rw [e1, if_neg q]
        unfold zf_MN_find_71
        rw [nI_1]
        obtain ⟨N, rfl⟩ : ∃ q, N = q + 1 := ⟨N - 1, by omega⟩
        show zf_MN_find_33 F k3 (N + 1) o 2 (nI j) (nI len) (nI x) 0 (nI (y + 1)) τ = _
        rw [zf_MN_find_33]
        by_cases r : nI len ≤ nI (y + 1)
        · rw [if_pos r]
        · rw [if_neg r, if_pos rfl]
    · refine ⟨1, Or.inl ⟨rfl, fun z h4 h5 => by omega⟩, ?_⟩
      rw [zf_MN_find_33, if_pos (nI_le (by omega) (by omega))]
theorem yy_nf3 {F n o R M len j : Nat} {v κ : Nat → Nat} {τ : zs_S} (ho : yNM o R) (hR : R ≤ 8) (ht : yx_TP v n τ) (hT : yTN v n j len) (hM : zs_i τ o 2 = nI M) (hMR : M ≤ R) (hr : ∀ x, x < M → yRK τ o x (κ x)) (hF : 100 < F) : ∀ d x N, M - x ≤ d → x ≤ M → d < N → ∃ r, zf_MN_find_3 F N o 2 (nI j) (nI len) (nI x) τ = some (r, τ) ∧ ((∃ y, x ≤ y ∧ y < M ∧ r = nI y ∧ κ y = yx_pn v j len) ∨ (r = -1 ∧ ∀ y, x ≤ y → y < M → κ y ≠ yx_pn v j len)) := by
  have hT2 := hT
  have ho2 := ho
  obtain ⟨o1, o2, o3, o4, o5, o6, o7, o8, o9⟩ := ho
  obtain ⟨t1, t2, t3, t4, t5⟩ := hT
  have hn := ht.1
  intro d
  induction d with
  | zero =>
    intro x N h1 h2 h3
    obtain ⟨N, rfl⟩ : ∃ q, N = q + 1 := ⟨N - 1, by omega⟩
    refine ⟨-1, ?_, Or.inr ⟨rfl, fun y h4 h5 => by omega⟩⟩
    rw [zf_MN_find_3, o1, zq_gr, hM, if_pos (nI_le (by omega) (by omega))]
  | succ d ih =>
    intro x N h1 h2 h3
    obtain ⟨N, rfl⟩ : ∃ q, N = q + 1 := ⟨N - 1, by omega⟩
    by_cases hx : x < M
    · obtain ⟨ln, w, l1, l2, l3, l4, l5, l6⟩ := hr x hx
      have hkey : κ x = yx_pn v j len ↔ (ln = len ∧ ∀ z, z < len → w z = v (j + z)) := by
        rw [l6]
        have := ypk (v := w) (w := v) (j := 0) (i := j) (a := ln) (b := len) (fun x hx => by rw [Nat.zero_add]; exact (l4 x hx).1) t4 l5 t5 l1 t1
        rw [this]
        simp only [Nat.zero_add]
      have e1 : zf_MN_find_3 F (N + 1) o 2 (nI j) (nI len) (nI x) τ = if ln = len then zf_MN_find_33 F (zf_MN_find_3 F N) F o 2 (nI j) (nI len) (nI x) 1 0 τ else zf_MN_find_33 F (zf_MN_find_3 F N) F o 2 (nI j) (nI len) (nI x) 0 0 τ := by
        rw [zf_MN_find_3, o1, zq_gr, hM, if_neg (nI_ge hx (by omega))]
        unfold zf_MN_find_28
        simp (disch := omega) only [o3, o6, o7, zq_gr, zq_qr, yn_b, nI_clamp, l3, yn_eq]
      have nxt : zf_MN_find_79 F (zf_MN_find_3 F N) o 2 (nI j) (nI len) (nI x) 0 τ = zf_MN_find_3 F N o 2 (nI j) (nI len) (nI (x + 1)) τ := by
        unfold zf_MN_find_79
        rw [if_pos rfl, nI_1]
        rfl
      have miss : ¬ κ x = yx_pn v j len → ∀ r, (zf_MN_find_3 F N o 2 (nI j) (nI len) (nI (x + 1)) τ = some (r, τ) ∧ ((∃ y, x + 1 ≤ y ∧ y < M ∧ r = nI y ∧ κ y = yx_pn v j len) ∨ (r = -1 ∧ ∀ y, x + 1 ≤ y → y < M → κ y ≠ yx_pn v j len))) → ((∃ y, x ≤ y ∧ y < M ∧ r = nI y ∧ κ y = yx_pn v j len) ∨ (r = -1 ∧ ∀ y, x ≤ y → y < M → κ y ≠ yx_pn v j len)) := by
        intro h4 r ⟨_, h5⟩
        rcases h5 with ⟨y, y1, y2, y3, y4⟩ | ⟨h6, h7⟩
        · exact Or.inl ⟨y, by omega, y2, y3, y4⟩
        · refine Or.inr ⟨h6, fun y y1 y2 => ?_⟩
          by_cases hy : y = x
          · subst hy
            exact h4
          · exact h7 y (by omega) y2
      obtain ⟨r, hr2⟩ := ih (x + 1) N (by omega) (by omega) (by omega)
      by_cases q : ln = len
      · subst q
        obtain ⟨b, b1, b2⟩ := yy_nf33 (F := F) (k3 := zf_MN_find_3 F N) (w := w) ho2 ht hT2 (show x < R by omega) hR l4 10 0 F (by omega) (by omega) (by omega)
        rcases b1 with ⟨c1, c2⟩ | ⟨c1, c2⟩
        · subst c1
          refine ⟨nI x, ?_, Or.inl ⟨x, by omega, hx, rfl, hkey.mpr ⟨rfl, fun z hz => c2 z (by omega) hz⟩⟩⟩
          rw [e1, if_pos rfl]
          show zf_MN_find_33 F (zf_MN_find_3 F N) F o 2 (nI j) (nI ln) (nI x) 1 (nI 0) τ = _
          rw [b2]
          unfold zf_MN_find_79
          rw [if_neg (by decide)]
        · subst c1
          refine ⟨r, ?_, miss (fun h => c2 (fun z _ hz => (hkey.mp h).2 z hz)) r hr2⟩
          rw [e1, if_pos rfl]
          show zf_MN_find_33 F (zf_MN_find_3 F N) F o 2 (nI j) (nI ln) (nI x) 1 (nI 0) τ = _
          rw [b2, nxt, hr2.1]
      · refine ⟨r, ?_, miss (fun h => q (hkey.mp h).1) r hr2⟩
        rw [e1, if_neg q]
        obtain ⟨G, hG⟩ : ∃ G, F = G + 1 := ⟨F - 1, by omega⟩
        rw [show zf_MN_find_33 F (zf_MN_find_3 F N) F o 2 (nI j) (nI len) (nI x) 0 0 τ = zf_MN_find_79 F (zf_MN_find_3 F N) o 2 (nI j) (nI len) (nI x) 0 τ from ?_, nxt, hr2.1]
        have : zf_MN_find_33 F (zf_MN_find_3 F N) (G + 1) o 2 (nI j) (nI len) (nI x) 0 0 τ = zf_MN_find_79 F (zf_MN_find_3 F N) o 2 (nI j) (nI len) (nI x) 0 τ := by
          rw [zf_MN_find_33]
          by_cases r : nI len ≤ 0
          · rw [if_pos r]
          · rw [if_neg r, if_pos rfl]
        rw [← hG] at this
        exact this
    · refine ⟨-1, ?_, Or.inr ⟨rfl, fun y h4 h5 => by omega⟩⟩
      rw [zf_MN_find_3, o1, zq_gr, hM, if_pos (nI_le (by omega) (by omega))]
theorem ym_find {F n o R M len j : Nat} {v κ : Nat → Nat} {τ : zs_S} (ho : yNM o R) (hR : R ≤ 8) (ht : yx_TP v n τ) (hT : yTN v n j len) (hM : zs_i τ o 2 = nI M) (hMR : M ≤ R) (hr : ∀ x, x < M → yRK τ o x (κ x)) (hF : 100 < F) : ∃ r, zf_MN_find F o 2 (nI j) (nI len) τ = some (r, τ) ∧ ((∃ y, y < M ∧ r = nI y ∧ κ y = yx_pn v j len) ∨ (r = -1 ∧ ∀ y, y < M → κ y ≠ yx_pn v j len)) := by
  obtain ⟨r, h1, h2⟩ := yy_nf3 ho hR ht hT hM hMR hr hF 10 0 F (by omega) (by omega) (by omega)
  refine ⟨r, h1, ?_⟩
  rcases h2 with ⟨y, -, h⟩ | ⟨h3, h4⟩
  · exact Or.inl ⟨y, h⟩
  · exact Or.inr ⟨h3, fun y hy => h4 y (by omega) hy⟩
/-- what adding a name leaves -/
def yad (τ : zs_S) (o M len j : Nat) : zs_S := zs_wi (zs_cp (zs_wi τ (o + 2) M (nI len)) 2 (o + 1) j (8 * M) len) o 2 (nI (M + 1))
theorem ym_add {F n o R M len j : Nat} {v : Nat → Nat} {τ : zs_S} (ho : yNM o R) (hR : R ≤ 8) (ht : yx_TP v n τ) (hT : yTN v n j len) (hM : zs_i τ o 2 = nI M) (hMR : M < R) : zf_MN_add F o 2 (nI j) (nI len) τ = some (yad τ o M len j) := by
  obtain ⟨o1, o2, o3, o4, o5, o6, o7, o8, o9⟩ := ho
  obtain ⟨t1, t2, t3, t4, t5⟩ := hT
  have hn := ht.1
  have hk2 : zq_k 1 2 1 = true := by decide
  have hs2 : (zd_sh 1 2).2 = 1600 := by decide
  have hcp : zq_cp 1 (zs_wi τ (o + 2) M (nI len)) 2 (nI j) (nI (8 * M)) (nI len) 1600 (8 * R) = true := by
    unfold zq_cp
    rw [nI_clamp (by omega), nI_clamp (by omega), nI_clamp (by omega), decide_eq_true (nI_pos (by omega)), decide_eq_true (nI_pos (by omega)), decide_eq_true (nI_pos (by omega)), decide_eq_true (by omega), decide_eq_true (by omega)]
    simp only [Bool.true_and, List.all_eq_true, List.mem_range]
    intro i hi
    rw [yt_in τ _ (by omega), (ht.2 (j + i) (by omega)).2]
    have : ∀ a, a < 128 → fits (zd_ty 1) (.int (yby a)) = true := by decide +kernel
    exact this _ (t4 i hi)
  unfold zf_MN_add yad
  simp (disch := omega) only [zq_v, o1, o2, o3, o4, o5, o6, o7, hk2, hs2, zq_gr, zq_qr, hM, yn_b, nI_clamp, yt_in, yn_8, yn_mul, hcp, yt_ic, if_neg (show ¬ o = o + 1 by omega), nI_1]
theorem yad_i {τ : zs_S} {o M len j : Nat} (a b : Nat) (h : ¬ (o ≤ a ∧ a ≤ o + 2)) : zs_i (yad τ o M len j) a b = zs_i τ a b := by
  unfold yad
  rw [yt_in _ _ (by omega), yt_ic, if_neg (by omega), yt_in _ _ (by omega)]
theorem yad_r {τ : zs_S} {o M len j : Nat} (a b : Nat) : zs_r (yad τ o M len j) a b = zs_r τ a b := rfl
theorem yad_m {τ : zs_S} {o M len j : Nat} : zs_i (yad τ o M len j) o 2 = nI (M + 1) := yt_ie _ _ _ _
theorem yad_k {n o R M len j x K : Nat} {v : Nat → Nat} {τ : zs_S} (ho : yNM o R) (ht : yx_TP v n τ) (hT : yTN v n j len) (hx : x < M) (h : yRK τ o x K) : yRK (yad τ o M len j) o x K := by
  obtain ⟨ln, w, l1, l2, l3, l4, l5, l6⟩ := h
  have o8 := ho.2.2.2.2.2.2.2.1
  refine ⟨ln, w, l1, l2, ?_, fun i hi => ⟨(l4 i hi).1, ?_⟩, l5, l6⟩
  · unfold yad
    rw [yt_in _ _ (by omega), yt_ic, if_neg (by omega), yt_in _ _ (by omega)]
    exact l3
  · unfold yad
    rw [yt_in _ _ (by omega), yt_ic, if_pos rfl]
    unfold va_cpy
    rw [if_neg (by omega), yt_in _ _ (by omega)]
    exact (l4 i hi).2
theorem yad_n {n o R M len j : Nat} {v : Nat → Nat} {τ : zs_S} (ho : yNM o R) (ht : yx_TP v n τ) (hT : yTN v n j len) : yRK (yad τ o M len j) o M (yx_pn v j len) := by
  obtain ⟨t1, t2, t3, t4, t5⟩ := hT
  have o8 := ho.2.2.2.2.2.2.2.1
  refine ⟨len, fun i => v (j + i), t1, t2, ?_, fun i hi => ⟨t4 i hi, ?_⟩, t5, yx_pn_eq len (fun x hx => by rw [Nat.zero_add])⟩
  · unfold yad
    rw [yt_in _ _ (by omega), yt_ic, if_neg (by omega), yt_ie]
  · unfold yad
    rw [yt_in _ _ (by omega), yt_ic, if_pos rfl]
    unfold va_cpy
    rw [if_pos (by omega), yt_in _ _ (by omega), show j + (8 * M + i - 8 * M) = j + i by omega]
    exact (ht.2 (j + i) (by omega)).2
end YRA
