/-! the class's lexer: the whole tape; the row of tokens -/
section ZXF
/-- where the token k begins, as long as there are tokens -/
def yx_ps (v : Nat → Nat) (n : Nat) : Nat → Nat
  | 0 => yx_E yx_sp v n 0
  | i + 1 => yx_E yx_sp v n (yx_tk v n (yx_ps v n i)).2.1
def yx_c (v : Nat → Nat) (n i : Nat) : Nat := (yx_tk v n (yx_ps v n i)).1
theorem yx_en {v : Nat → Nat} {n j : Nat} (hb : ∀ x, x < n → v x < 256) (hj : j ≤ n) (hc : (yx_tk v n j).1 ≠ 1000) : j < (yx_tk v n j).2.1 ∧ ((yx_tk v n j).1 ≠ 1001 → (yx_tk v n j).2.1 ≤ n) := by
  rcases yx_tkx (v := v) (n := n) (j := j) hb with h | ⟨h1, h2, -⟩
  · unfold yx_tk at hc ⊢
    by_cases hjn : n ≤ j
    · rw [if_pos hjn] at hc
      exact absurd rfl hc
    · rw [if_neg hjn]
      by_cases hl : yx_lt (v j) = true
      · rw [if_pos hl]
        have hE := yx_E_n (P := yx_ld) (v := v) hj
        refine ⟨?_, fun _ => hE⟩
        show j < yx_E yx_ld v n j
        rw [yx_Es (by omega) (yx_ld_iff.mpr (Or.inl hl))]
        exact yx_E_le
      · rw [if_neg hl]
        by_cases hd : yx_dg (v j) = true
        · rw [if_pos hd]
          have hE := yx_E_n (P := yx_dg) (v := v) hj
          refine ⟨?_, fun _ => hE⟩
          show j < yx_E yx_dg v n j
          rw [yx_Es (by omega) hd]
          exact yx_E_le
        · rw [if_neg hd]
          have hd2 : (if j + 1 < n then v (j + 1) else 0) < 256 := by
            by_cases q : j + 1 < n
            · rw [if_pos q]
              exact hb _ q
            · rw [if_neg q]
              decide
          have e2 := yx_f2d (hb j (by omega)) hd2 hl
          by_cases q : yx_find (v j * 256 + (if j + 1 < n then v (j + 1) else 0)) 2 = 1001
          · rw [if_pos q]
            exact ⟨by show j < j + 1; omega, fun _ => by show j + 1 ≤ n; omega⟩
          · rw [if_neg q]
            refine ⟨by show j < j + 2; omega, fun _ => ?_⟩
            show j + 2 ≤ n
            by_cases r : j + 1 < n
            · omega
            · rw [if_neg r] at e2 q
              omega
  · exact ⟨h1, fun _ => h2⟩
theorem yx_pn2 {v : Nat → Nat} {n : Nat} (hb : ∀ x, x < n → v x < 256) : ∀ i, (∀ x, x < i → yx_c v n x ≠ 1000 ∧ yx_c v n x ≠ 1001) → i ≤ yx_ps v n i ∧ yx_ps v n i ≤ n := by
  intro i
  induction i with
  | zero => intro _; exact ⟨Nat.zero_le _, yx_E_n (Nat.zero_le n)⟩
  | succ i ih =>
    intro h
    obtain ⟨h1, h2⟩ := ih (fun x hx => h x (by omega))
    obtain ⟨h3, h4⟩ := h i (by omega)
    obtain ⟨h5, h6⟩ := yx_en (v := v) (n := n) hb h2 h3
    have h7 := h6 h4
    have h8 := yx_E_le (P := yx_sp) (v := v) (n := n) (i := (yx_tk v n (yx_ps v n i)).2.1)
    have h9 := yx_E_n (P := yx_sp) (v := v) (n := n) (i := (yx_tk v n (yx_ps v n i)).2.1) h7
    unfold yx_ps
    omega
theorem yx_end1000 {v : Nat → Nat} {n j : Nat} (h : n ≤ j) : (yx_tk v n j).1 = 1000 := by
  unfold yx_tk
  rw [if_pos h]
/-- the last token: END, or BAD -/
theorem yx_last {v : Nat → Nat} {n : Nat} (hb : ∀ x, x < n → v x < 256) : ∃ m, m ≤ n ∧ (yx_c v n m = 1000 ∨ yx_c v n m = 1001) ∧ ∀ x, x < m → yx_c v n x ≠ 1000 ∧ yx_c v n x ≠ 1001 := by
  have hex : ∃ m, (yx_c v n m = 1000 ∨ yx_c v n m = 1001) := by
    by_cases h : ∀ x, x < n → yx_c v n x ≠ 1000 ∧ yx_c v n x ≠ 1001
    · refine ⟨n, Or.inl ?_⟩
      exact yx_end1000 (yx_pn2 hb n h).1
    · refine Classical.byContradiction (fun q => h (fun x _ => ⟨fun e => q ⟨x, Or.inl e⟩, fun e => q ⟨x, Or.inr e⟩⟩))
  obtain ⟨m, h1, h2⟩ := pk_least _ hex
  have h3 : ∀ x, x < m → yx_c v n x ≠ 1000 ∧ yx_c v n x ≠ 1001 := fun x hx => ⟨fun e => h2 x hx (Or.inl e), fun e => h2 x hx (Or.inr e)⟩
  refine ⟨m, ?_, h1, h3⟩
  have := yx_pn2 hb m h3
  omega
/-- the tokens 0 .. i - 1 lie in the rows -/
def yx_rows (v : Nat → Nat) (n i : Nat) (σ : zs_S) : Prop := ∀ x, x < i → yx_row v n (yx_ps v n x) x σ
theorem yy_sk {F n : Nat} {v : Nat → Nat} {σ : zs_S} {k12 : Nat → Int32 → Int32 → zs_S → Option zs_S} {x3 : Int32} (ht : yx_TP v n σ) : ∀ d i N, n - i ≤ d → i ≤ n → d < N → zf_Tokens_split_19 F k12 N 2 (nI n) x3 (zs_wi σ 3 4 (nI i)) = zf_Tokens_split_62 F k12 2 (nI n) x3 (zs_wi σ 3 4 (nI (yx_E yx_sp v n i))) := by
  have hn := ht.1
  have hk2 : zq_k 0 2 1 = true := by decide
  have hs2 : (zd_sh 0 2).2 = 1600 := by decide
  intro d
  induction d with
  | zero =>
    intro i N h1 h2 h3
    obtain ⟨N, rfl⟩ : ∃ q, N = q + 1 := ⟨N - 1, by omega⟩
    rw [yx_E0 (fun h => by omega), zf_Tokens_split_19]
    simp only [yt_ii, yt_il, yt_ir, yt_ri, yt_rl, yt_rr, yt_li, yt_ll, yt_lr, Nat.reduceEqDiff, eq_self, and_true, true_and, and_false, false_and, and_self, reduceIte]
    rw [if_pos (nI_le (by omega) (by omega))]
  | succ d ih =>
    intro i N h1 h2 h3
    obtain ⟨N, rfl⟩ : ∃ q, N = q + 1 := ⟨N - 1, by omega⟩
    by_cases hi : i < n
    · obtain ⟨hv, hc⟩ := ht.2 i hi
      rw [zf_Tokens_split_19]
      simp only [yt_ii, yt_il, yt_ir, yt_ri, yt_rl, yt_rr, yt_li, yt_ll, yt_lr, Nat.reduceEqDiff, eq_self, and_true, true_and, and_false, false_and, and_self, reduceIte, nI_clamp (show i < 2 ^ 31 by omega), hk2, hs2, yn_b (show i < 1600 by omega) (by decide), zq_gr, hc]
      rw [if_neg (nI_ge hi (by omega))]
      by_cases hp : yx_sp (v i) = true
      · have key : zf_Tokens_split_49 F k12 (zf_Tokens_split_19 F k12 N) 2 (nI n) x3 (zs_wi σ 3 4 (nI i)) = zf_Tokens_split_62 F k12 2 (nI n) x3 (zs_wi σ 3 4 (nI (yx_E yx_sp v n i))) := by
          rw [yx_Es hi hp, ← ih (i + 1) N (by omega) (by omega) (by omega)]
          unfold zf_Tokens_split_49
          simp only [zq_v, yt_ii, yt_il, yt_ir, yt_ri, yt_rl, yt_rr, yt_li, yt_ll, yt_lr, Nat.reduceEqDiff, eq_self, and_true, true_and, and_false, false_and, and_self, reduceIte, nI_1, yt_ww]
        by_cases h32 : v i = 32
        · rw [if_pos ((yby_32 _ hv).mpr h32)]
          exact key
        · rw [if_neg (fun q => h32 ((yby_32 _ hv).mp q)), if_pos ((yby_10 _ hv).mpr ((yx_sp_iff.mp hp).resolve_left h32))]
          exact key
      · rw [yx_E0 (fun h => hp h.2), if_neg (fun q => hp (yx_sp_iff.mpr (Or.inl ((yby_32 _ hv).mp q)))), if_neg (fun q => hp (yx_sp_iff.mpr (Or.inr ((yby_10 _ hv).mp q))))]
    · rw [yx_E0 (fun h => hi h.1), zf_Tokens_split_19]
      simp only [yt_ii, yt_il, yt_ir, yt_ri, yt_rl, yt_rr, yt_li, yt_ll, yt_lr, Nat.reduceEqDiff, eq_self, and_true, true_and, and_false, false_and, and_self, reduceIte]
      rw [if_pos (nI_le (by omega) (by omega))]
theorem yx_Cw {σ σ' : zs_S} {k : Nat} {x : Int32} (h : yx_C σ σ') (hk : 3 ≤ k) : yx_C σ (zs_wi σ' 3 k x) := by
  refine ⟨fun o j q r => ?_, h.2.1, h.2.2⟩
  rw [yt_ii, if_neg (fun e => q ⟨e.1, by omega⟩)]
  exact h.1 o j q r
theorem yx_CT {v : Nat → Nat} {n : Nat} {σ σ' : zs_S} (ht : yx_TP v n σ) (h : yx_C σ σ') : yx_TP v n σ' := ⟨ht.1, fun j hj => ⟨(ht.2 j hj).1, (h.1 2 j (by omega) (by omega)).trans (ht.2 j hj).2⟩⟩
/-- the loop of split: from the token i on, whose place's spaces begin at e -/
theorem yy_spl {F n m : Nat} {v : Nat → Nat} {σ0 : zs_S} (ht : yx_TP v n σ0) (hF : 1700 < F) (hm : yx_c v n m = 1000 ∨ yx_c v n m = 1001) (hmx : ∀ x, x < m → yx_c v n x ≠ 1000 ∧ yx_c v n x ≠ 1001) : ∀ d i e N σ, m - i ≤ d → i ≤ m → d < N → e ≤ n → yx_ps v n i = yx_E yx_sp v n e → zs_i σ 3 3 = nI i → zs_i σ 3 4 = nI e → yx_C σ0 σ → yx_rows v n i σ → yw (zf_Tokens_split_12 F N 2 (nI n) (nI i) σ) (fun σ' => yx_C σ0 σ' ∧ yx_rows v n (m + 1) σ') := by
  have hn := ht.1
  have hb : ∀ x, x < n → v x < 256 := fun x hx => (ht.2 x hx).1
  have hm16 : m ≤ n := by
    have := yx_pn2 hb m hmx
    omega
  intro d
  induction d with
  | zero =>
    intro i e N σ h1 h2 h3 he hp hs ha hC hR
    obtain ⟨N, rfl⟩ : ∃ q, N = q + 1 := ⟨N - 1, by omega⟩
    have him : i = m := by omega
    subst him
    rw [zf_Tokens_split_12, show (1600 : Int32) = nI 1600 from rfl, if_neg (nI_nlt (by omega) (by omega))]
    have e0 := yy_sk (F := F) (k12 := zf_Tokens_split_12 F N) (x3 := nI i) (yx_CT ht hC) n e F (by omega) he (by omega)
    rw [yt_ws ha] at e0
    rw [e0]
    unfold zf_Tokens_split_62
    refine yw_d (yy_add (F := F) (i := i) (j := yx_ps v n i) (v := v) (yx_CT ht (yx_Cw hC (by omega))) hs (by rw [hp]; rfl) (by omega) (yx_pn2 hb i hmx).2 (by omega)) (fun σ1 h => ?_)
    obtain ⟨a1, a2, a3, a4, a5⟩ := h
    have hC1 : yx_C σ0 σ1 := yx_Ct (yx_Cw hC (by omega)) a4
    have hR1 : yx_rows v n (i + 1) σ1 := by
      intro x hx
      by_cases q : x = i
      · subst q
        exact a3
      · obtain ⟨b1, b2, b3⟩ := a5 x (by omega)
        obtain ⟨c1, c2, c3⟩ := hR x (by omega)
        exact ⟨b2.trans c1, b1.trans c2, fun h => b3.trans (c3 h)⟩
    have hcode := yx_code (v := v) (n := n) (j := yx_ps v n i) hb
    have hc : zs_r σ1 4 i = yx_c v n i := a3.1
    rw [yn_b (show i < 1601 by omega) (by decide), zq_gr, nI_clamp (show i < 2 ^ 31 by omega), hc, zq_qr (by omega), decide_eq_true (by omega), zq_gr, zq_gr]
    rcases hm with q | q
    · rw [if_pos q]
      exact ⟨hC1, hR1⟩
    · rw [if_neg (by omega), zq_qr (by omega), decide_eq_true (by omega), zq_gr, if_pos q]
      exact ⟨hC1, hR1⟩
  | succ d ih =>
    intro i e N σ h1 h2 h3 he hp hs ha hC hR
    by_cases him : i = m
    · subst him
      obtain ⟨N, rfl⟩ : ∃ q, N = q + 1 := ⟨N - 1, by omega⟩
      rw [zf_Tokens_split_12, show (1600 : Int32) = nI 1600 from rfl, if_neg (nI_nlt (by omega) (by omega))]
      have e0 := yy_sk (F := F) (k12 := zf_Tokens_split_12 F N) (x3 := nI i) (yx_CT ht hC) n e F (by omega) he (by omega)
      rw [yt_ws ha] at e0
      rw [e0]
      unfold zf_Tokens_split_62
      refine yw_d (yy_add (F := F) (i := i) (j := yx_ps v n i) (v := v) (yx_CT ht (yx_Cw hC (by omega))) hs (by rw [hp]; rfl) (by omega) (yx_pn2 hb i hmx).2 (by omega)) (fun σ1 h => ?_)
      obtain ⟨a1, a2, a3, a4, a5⟩ := h
      have hC1 : yx_C σ0 σ1 := yx_Ct (yx_Cw hC (by omega)) a4
      have hR1 : yx_rows v n (i + 1) σ1 := by
        intro x hx
        by_cases q : x = i
        · subst q
          exact a3
        · obtain ⟨b1, b2, b3⟩ := a5 x (by omega)
          obtain ⟨c1, c2, c3⟩ := hR x (by omega)
          exact ⟨b2.trans c1, b1.trans c2, fun h => b3.trans (c3 h)⟩
      have hcode := yx_code (v := v) (n := n) (j := yx_ps v n i) hb
      have hc : zs_r σ1 4 i = yx_c v n i := a3.1
      rw [yn_b (show i < 1601 by omega) (by decide), zq_gr, nI_clamp (show i < 2 ^ 31 by omega), hc, zq_qr (by omega), decide_eq_true (by omega), zq_gr, zq_gr]
      rcases hm with q | q
      · rw [if_pos q]
        exact ⟨hC1, hR1⟩
      · rw [if_neg (by omega), zq_qr (by omega), decide_eq_true (by omega), zq_gr, if_pos q]
        exact ⟨hC1, hR1⟩
    · obtain ⟨N, rfl⟩ : ∃ q, N = q + 1 := ⟨N - 1, by omega⟩
      have hmi := hmx i (by omega)
      have hpi := yx_pn2 hb i (fun x hx => hmx x (by omega))
      rw [zf_Tokens_split_12, show (1600 : Int32) = nI 1600 from rfl, if_neg (nI_nlt (by omega) (by omega))]
      have e0 := yy_sk (F := F) (k12 := zf_Tokens_split_12 F N) (x3 := nI i) (yx_CT ht hC) n e F (by omega) he (by omega)
      rw [yt_ws ha] at e0
      rw [e0]
      unfold zf_Tokens_split_62
      refine yw_d (yy_add (F := F) (i := i) (j := yx_ps v n i) (v := v) (yx_CT ht (yx_Cw hC (by omega))) hs (by rw [hp]; rfl) (by omega) hpi.2 (by omega)) (fun σ1 h => ?_)
      obtain ⟨a1, a2, a3, a4, a5⟩ := h
      have hC1 : yx_C σ0 σ1 := yx_Ct (yx_Cw hC (by omega)) a4
      have hR1 : yx_rows v n (i + 1) σ1 := by
        intro x hx
        by_cases q : x = i
        · subst q
          exact a3
        · obtain ⟨b1, b2, b3⟩ := a5 x (by omega)
          obtain ⟨c1, c2, c3⟩ := hR x (by omega)
          exact ⟨b2.trans c1, b1.trans c2, fun h => b3.trans (c3 h)⟩
      have hc : zs_r σ1 4 i = yx_c v n i := a3.1
      have hcode : zq_t (yx_c v n i) = true := yx_code (v := v) (n := n) (j := yx_ps v n i) hb
      obtain ⟨t1, t2, t3⟩ := zq_ts hcode
      rw [yn_b (show i < 1601 by omega) (by decide), zq_gr, nI_clamp (show i < 2 ^ 31 by omega), hc, zq_qr (by omega), decide_eq_true (by omega), zq_gr, zq_gr, if_neg hmi.1, zq_qr (by omega), decide_eq_true (by omega), zq_gr, if_neg hmi.2]
      simp only [zq_v, nI_1]
      have hen := yx_en (v := v) (n := n) hb hpi.2 hmi.1
      exact ih (i + 1) (yx_tk v n (yx_ps v n i)).2.1 N σ1 (by omega) (by omega) (by omega) (hen.2 hmi.2) rfl a1 a2 hC1 hR1
/-- split lays all tokens up to END or BAD -/
theorem yy_split {F n m : Nat} {v : Nat → Nat} {σ : zs_S} (ht : yx_TP v n σ) (hF : 1700 < F) (hm : yx_c v n m = 1000 ∨ yx_c v n m = 1001) (hmx : ∀ x, x < m → yx_c v n x ≠ 1000 ∧ yx_c v n x ≠ 1001) : yw (zf_Tokens_split F 2 (nI n) σ) (fun σ' => yx_C σ σ' ∧ yx_rows v n (m + 1) σ') := by
  have hb : ∀ x, x < n → v x < 256 := fun x hx => (ht.2 x hx).1
  have hm16 : m ≤ n := by
    have := yx_pn2 hb m hmx
    omega
  have hn := ht.1
  unfold zf_Tokens_split
  exact yy_spl ht hF hm hmx m 0 0 F (zs_wi (zs_wi σ 3 3 0) 3 4 0) (by omega) (by omega) (by omega) (by omega) rfl rfl rfl (yx_Cw (yx_Cw (yx_Cr σ) (by omega)) (by omega)) (fun x hx => by omega)
end ZXF
