/-! the reference's lexer: a whole step; is, isName -/
section ZXC
theorem yx_f2 {c d : Nat} (hc : c < 256) (hd : d < 256) (hl : ¬ yx_lt c = true) : yx_find (c * 256 + d) 2 = if c = 124 ∧ d = 124 then 1026 else if c = 38 ∧ d = 38 then 1027 else if c = 61 ∧ d = 61 then 1028 else if c = 33 ∧ d = 61 then 1029 else if c = 60 ∧ d = 61 then 1031 else if c = 62 ∧ d = 61 then 1033 else 1001 := by
  have hl : ¬ (97 ≤ c ∧ c ≤ 122) := fun q => hl (yx_lt_iff.mpr q)
  have e1 : (26982 = c * 256 + d) = False := eq_false (by omega)
  have e2 : (31868 = c * 256 + d) = (c = 124 ∧ d = 124) := propext (by omega)
  have e3 : (9766 = c * 256 + d) = (c = 38 ∧ d = 38) := propext (by omega)
  have e4 : (15677 = c * 256 + d) = (c = 61 ∧ d = 61) := propext (by omega)
  have e5 : (8509 = c * 256 + d) = (c = 33 ∧ d = 61) := propext (by omega)
  have e6 : (15421 = c * 256 + d) = (c = 60 ∧ d = 61) := propext (by omega)
  have e7 : (15933 = c * 256 + d) = (c = 62 ∧ d = 61) := propext (by omega)
  simp only [yx_find, yx_tab, yx_fi, Nat.reduceEqDiff, false_and, true_and, reduceIte, e1, e2, e3, e4, e5, e6, e7, Nat.reduceAdd]
theorem yx_f1 {c : Nat} : yx_find c 1 = if c = 123 then 1019 else if c = 125 then 1020 else if c = 40 then 1021 else if c = 41 then 1022 else if c = 59 then 1023 else if c = 61 then 1024 else if c = 33 then 1025 else if c = 60 then 1030 else if c = 62 then 1032 else if c = 43 then 1034 else if c = 45 then 1035 else if c = 42 then 1036 else 1001 := by
  simp only [yx_find, yx_tab, yx_fi, Nat.reduceEqDiff, false_and, true_and, reduceIte, Nat.reduceAdd, eq_comm (b := c)]
theorem yx_f1d {c : Nat} : yx_find c 1 = 1001 ∨ (c < 128 ∧ 1019 ≤ yx_find c 1 ∧ yx_find c 1 ≤ 1036) := by
  rw [yx_f1]
  repeat' split
  all_goals omega
theorem yx_f2d {c d : Nat} (hc : c < 256) (hd : d < 256) (hl : ¬ yx_lt c = true) : yx_find (c * 256 + d) 2 = 1001 ∨ (c < 128 ∧ d < 128 ∧ d ≠ 0 ∧ 1026 ≤ yx_find (c * 256 + d) 2 ∧ yx_find (c * 256 + d) 2 ≤ 1033) := by
  rw [yx_f2 hc hd hl]
  repeat' split
  all_goals omega
def yx_kd (c : Nat) : Int32 := if c = 1000 then 0 else if c = 1001 then 4 else if c = 1003 then 2 else if c < 1019 then 1 else 3
theorem yy_sg {F c d : Nat} {τ : zs_S} (hc : c < 256) (hd : d < 256) (hl : ¬ yx_lt c = true) : zf_M_step_322 F (yby c) (yby d) τ = zf_M_step_477 F (if yx_find (c * 256 + d) 2 = 1001 then 0 else 1) (yx_kd (if yx_find (c * 256 + d) 2 = 1001 then yx_find c 1 else yx_find (c * 256 + d) 2)) τ := by
  rw [yx_f2 hc hd hl, yx_f1]
  simp only [zf_M_step_322, zf_M_step_353, zf_M_step_365, zf_M_step_377, zf_M_step_381, zf_M_step_382, zf_M_step_455, zf_M_step_460, zf_M_step_472, yby_61 d hd, yby_61 c hc, yby_33 c hc, yby_60 c hc, yby_62 c hc, yby_38 c hc, yby_38 d hd, yby_124 c hc, yby_124 d hd, yby_123 c hc, yby_125 c hc, yby_40 c hc, yby_41 c hc, yby_59 c hc, yby_43 c hc, yby_45 c hc, yby_42 c hc]
  by_cases h1 : c = 124
  · subst h1
    by_cases k : d = 124
    · subst k; rfl
    · simp [k, yx_kd]
  by_cases h2 : c = 38
  · subst h2
    by_cases k : d = 38
    · subst k; rfl
    · simp [k, yx_kd]
  by_cases h3 : c = 61
  · subst h3
    by_cases k : d = 61
    · subst k; rfl
    · simp [k, yx_kd]
  by_cases h4 : c = 33
  · subst h4
    by_cases k : d = 61
    · subst k; rfl
    · simp [k, yx_kd]
  by_cases h5 : c = 60
  · subst h5
    by_cases k : d = 61
    · subst k; rfl
    · simp [k, yx_kd]
  by_cases h6 : c = 62
  · subst h6
    by_cases k : d = 61
    · subst k; rfl
    · simp [k, yx_kd]
  simp only [h1, h2, h3, h4, h5, h6, false_and, if_false, ite_self]
  by_cases g1 : c = 123
  · subst g1; rfl
  by_cases g2 : c = 125
  · subst g2; rfl
  by_cases g3 : c = 40
  · subst g3; rfl
  by_cases g4 : c = 41
  · subst g4; rfl
  by_cases g5 : c = 59
  · subst g5; rfl
  by_cases g6 : c = 43
  · subst g6; rfl
  by_cases g7 : c = 45
  · subst g7; rfl
  by_cases g8 : c = 42
  · subst g8; rfl
  simp only [g1, g2, g3, g4, g5, g6, g7, g8, if_false]
  rfl
/-- a word's token: a name or one of the words -/
theorem yx_wd {v : Nat → Nat} {j m : Nat} (h : yx_lt (v j) = true) (hm : 0 < m) (hm8 : m ≤ 8) (hb : ∀ x, x < m → v (j + x) < 128) : yx_find (yx_pn v j m) m = 1001 ∨ (1005 ≤ yx_find (yx_pn v j m) m ∧ yx_find (yx_pn v j m) m < 1019) := by
  have hl := yx_lt_iff.mp h
  rcases yx_fi_r (K := yx_pn v j m) (len := m) yx_tab 1000 with h1 | ⟨x, h1, h2⟩
  · exact Or.inl h1
  · right
    have h1 : yx_find (yx_pn v j m) m = 1000 + x := h1
    rw [h1]
    have t1 : ∀ x, x < 37 → ∀ p, yx_tab[x]? = some p → (x < 5 → p.1 = 0) ∧ (19 ≤ x → (p.1 = 1 ∧ (p.2 < 97 ∨ 122 < p.2)) ∨ (p.1 = 2 ∧ (p.2 / 256 < 97 ∨ 122 < p.2 / 256))) := by
      intro x hx p hp
      have : ∀ x, x < 37 → (x < 5 → (yx_tab.getD x (0, 0)).1 = 0) ∧ (19 ≤ x → ((yx_tab.getD x (0, 0)).1 = 1 ∧ ((yx_tab.getD x (0, 0)).2 < 97 ∨ 122 < (yx_tab.getD x (0, 0)).2)) ∨ ((yx_tab.getD x (0, 0)).1 = 2 ∧ ((yx_tab.getD x (0, 0)).2 / 256 < 97 ∨ 122 < (yx_tab.getD x (0, 0)).2 / 256))) := by decide +kernel
      have e : yx_tab.getD x (0, 0) = p := by
        rw [List.getD_eq_getElem?_getD, hp]
        rfl
      have := this x hx
      rw [e] at this
      exact this
    have hx : x < 37 := by
      have := (List.getElem?_eq_some_iff.mp h2).1
      exact this
    obtain ⟨a, b⟩ := t1 x hx _ h2
    refine ⟨?_, ?_⟩
    · by_cases q : x < 5
      · have := a q
        omega
      · omega
    · by_cases q : 19 ≤ x
      · exfalso
        have hv0 := hb 0 hm
        rcases b q with ⟨e1, e2⟩ | ⟨e1, e2⟩
        · have e1 : m = 1 := e1
          subst e1
          simp only [yx_pn, Nat.add_zero] at e2
          omega
        · have e1 : m = 2 := e1
          subst e1
          have hv1 := hb 1 (by omega)
          simp only [yx_pn, Nat.add_zero] at e2
          omega
      · omega
/-- the reference stands at the token at place j -/
def yx_at (v : Nat → Nat) (n j : Nat) (τ : zs_S) : Prop := zs_i τ 1 8 = nI j ∧ zs_i τ 1 9 = nI (yx_tk v n j).2.1 ∧ zs_i τ 1 6 = nI (yx_tk v n j).2.1 ∧ zs_i τ 1 7 = yx_kd (yx_tk v n j).1 ∧ ((yx_tk v n j).1 = 1003 → zs_i τ 1 10 = nI (yx_tk v n j).2.2)
def ym_L (τ τ' : zs_S) : Prop := (∀ o k, ¬ (o = 1 ∧ 6 ≤ k ∧ k ≤ 10) → zs_i τ' o k = zs_i τ o k) ∧ (∀ o k, zs_r τ' o k = zs_r τ o k)
theorem ym_Lr (τ : zs_S) : ym_L τ τ := ⟨fun _ _ _ => rfl, fun _ _ => rfl⟩
theorem ym_Lt {a b c : zs_S} (h : ym_L a b) (g : ym_L b c) : ym_L a c := ⟨fun o k q => (g.1 o k q).trans (h.1 o k q), fun o k => (g.2 o k).trans (h.2 o k)⟩
theorem ym_Lw {τ σ : zs_S} {k : Nat} {x : Int32} (h : ym_L τ σ) (hk : 6 ≤ k) (hk2 : k ≤ 10) : ym_L τ (zs_wi σ 1 k x) := by
  refine ⟨fun o j q => ?_, fun o j => h.2 o j⟩
  rw [yt_ii, if_neg (fun e => q ⟨e.1, by omega, by omega⟩)]
  exact h.1 o j q
theorem yy_step {F n i : Nat} {v : Nat → Nat} {τ : zs_S} (ht : yx_TP v n τ) (hs : zs_i τ 1 5 = nI n) (hn : zs_i τ 1 6 = nI i) (hi : i ≤ n) (hF : 1600 < F) : yw (zf_M_step F τ) (fun τ' => yx_at v n (yx_E yx_sp v n i) τ' ∧ ym_L τ τ') := by
  have hn16 := ht.1
  unfold zf_M_step
  have e0 : zf_M_step_0 F F τ = zf_M_step_0 F F (zs_wi τ 1 6 (nI i)) := by rw [yt_ws hn]
  rw [e0, yy_sp ht hs n i F (by omega) hi (by omega)]
  have hj := yx_E_n (P := yx_sp) (v := v) hi
  generalize yx_E yx_sp v n i = j at hj
  unfold zf_M_step_52
  simp only [zq_v, yt_ii, yt_il, yt_ir, yt_ri, yt_rl, yt_rr, yt_li, yt_ll, yt_lr, Nat.reduceEqDiff, eq_self, and_true, true_and, and_false, false_and, and_self, reduceIte, hs, yn_eq (show j < 2 ^ 31 by omega) (show n < 2 ^ 31 by omega), nI_clamp (show j < 2 ^ 31 by omega)]
  by_cases hjn : j = n
  · subst hjn
    rw [if_pos rfl]
    have e : yx_tk v j j = (1000, j, 0) := if_pos (Nat.le_refl j)
    unfold yx_at
    rw [e]
    refine ⟨⟨rfl, rfl, rfl, rfl, fun h => absurd (show (1000 : Nat) = 1003 from h) (by decide)⟩, ?_⟩
    exact ym_Lw (ym_Lw (ym_Lw (ym_Lw (ym_Lr τ) (by omega) (by omega)) (by omega) (by omega)) (by omega) (by omega)) (by omega) (by omega)
  · have hlt : j < n := by omega
    obtain ⟨hv, hc⟩ := ht.2 j hlt
    rw [if_neg hjn, yn_b (show j < 1600 by omega) (by decide), zq_gr, hc, yy_small hv, zq_cr]
    have hL : ym_L τ (zs_wi (zs_wi τ 1 6 (nI j)) 1 8 (nI j)) := ym_Lw (ym_Lw (ym_Lr τ) (by omega) (by omega)) (by omega) (by omega)
    by_cases hl : yx_lt (v j) = true
    · rw [if_pos hl, if_neg (by decide)]
      have hE := yx_E_n (P := yx_ld) (v := v) (show j ≤ n by omega)
      have hE1 : j < yx_E yx_ld v n j := by
        rw [yx_Es hlt (yx_ld_iff.mpr (Or.inl hl))]
        exact yx_E_le
      have hall : ∀ x, x < yx_E yx_ld v n j - j → v (j + x) < 128 := by
        intro x hx
        rcases yx_ld_iff.mp (yx_E_all (P := yx_ld) (v := v) (n := n) (i := j) (x := j + x) (by omega) (by omega)) with q | q
        · have := yx_lt_iff.mp q
          omega
        · have := yx_dg_iff.mp q
          omega
      have ht2 : yx_TP v n (zs_wi (zs_wi τ 1 6 (nI j)) 1 8 (nI j)) := ⟨ht.1, fun x hx => ht.2 x hx⟩
      have e1 : zf_M_step_94 F F (zs_wi (zs_wi τ 1 6 (nI j)) 1 8 (nI j)) = zf_M_step_94 F F (zs_wi (zs_wi (zs_wi τ 1 6 (nI j)) 1 8 (nI j)) 1 6 (nI j)) := by
        rw [yt_ws (σ := zs_wi (zs_wi τ 1 6 (nI j)) 1 8 (nI j)) (o := 1) (k := 6) (v := nI j) rfl]
      rw [e1, yy_wd ht2 hs n j F (by omega) (by omega) (by omega)]
      generalize hk : yx_E yx_ld v n j = k at *
      unfold zf_M_step_148
      simp only [yt_ii, yt_il, yt_ir, yt_ri, yt_rl, yt_rr, yt_li, yt_ll, yt_lr, Nat.reduceEqDiff, eq_self, and_true, true_and, and_false, false_and, and_self, reduceIte]
      rw [pk_sub (by omega), show (8 : Int32) = nI 8 from rfl]
      simp (disch := omega) only [yn_lt]
      have etk : yx_tk v n j = (if k - j ≤ 8 then (if yx_find (yx_pn v j (k - j)) (k - j) = 1001 then 1002 else yx_find (yx_pn v j (k - j)) (k - j)) else 1001, k, yx_pn v j (k - j)) := by
        unfold yx_tk
        rw [if_neg (by omega), if_pos hl, hk]
      unfold yx_at
      rw [etk]
      by_cases h8 : k - j ≤ 8
      · rw [if_neg (by omega), if_pos h8]
        have ekd : yx_kd (if yx_find (yx_pn v j (k - j)) (k - j) = 1001 then 1002 else yx_find (yx_pn v j (k - j)) (k - j)) = 1 ∧ (if yx_find (yx_pn v j (k - j)) (k - j) = 1001 then 1002 else yx_find (yx_pn v j (k - j)) (k - j)) ≠ 1003 := by
          rcases yx_wd hl (show 0 < k - j by omega) h8 hall with q | q
          · rw [if_pos q]
            decide
          · rw [if_neg (by omega)]
            unfold yx_kd
            rw [if_neg (by omega), if_neg (by omega), if_neg (by omega), if_pos (by omega)]
            exact ⟨rfl, by omega⟩
        refine ⟨⟨rfl, rfl, rfl, ekd.1.symm, fun h => absurd h ekd.2⟩, ?_⟩
        exact ym_Lw (ym_Lw (ym_Lw hL (by omega) (by omega)) (by omega) (by omega)) (by omega) (by omega)
      · rw [if_pos (by omega), if_neg h8]
        refine ⟨⟨rfl, rfl, rfl, rfl, fun h => absurd (show (1001 : Nat) = 1003 from h) (by decide)⟩, ?_⟩
        exact ym_Lw (ym_Lw (ym_Lw hL (by omega) (by omega)) (by omega) (by omega)) (by omega) (by omega)
    · rw [if_neg hl, if_pos rfl]
      simp only [yt_ii, yt_il, yt_ir, yt_ri, yt_rl, yt_rr, yt_li, yt_ll, yt_lr, Nat.reduceEqDiff, eq_self, and_true, true_and, and_false, false_and, and_self, reduceIte, nI_clamp (show j < 2 ^ 31 by omega)]
      rw [yn_b (show j < 1600 by omega) (by decide), zq_gr, hc, yy_digit hv, zq_cr]
      by_cases hd : yx_dg (v j) = true
      · rw [if_pos hd, if_neg (by decide)]
        have hE := yx_E_n (P := yx_dg) (v := v) (show j ≤ n by omega)
        have hE1 : j < yx_E yx_dg v n j := by
          rw [yx_Es hlt hd]
          exact yx_E_le
        have ht2 : yx_TP v n (zs_wi (zs_wi τ 1 6 (nI j)) 1 8 (nI j)) := ⟨ht.1, fun x hx => ht.2 x hx⟩
        have e1 : zf_M_step_194 F F (zs_wi (zs_wi (zs_wi τ 1 6 (nI j)) 1 8 (nI j)) 1 10 0) = zf_M_step_194 F F (zs_wi (zs_wi (zs_wi (zs_wi τ 1 6 (nI j)) 1 8 (nI j)) 1 10 (nI (yx_nr v j 0))) 1 6 (nI (j + 0))) := by
          rw [yt_ws (σ := zs_wi (zs_wi (zs_wi τ 1 6 (nI j)) 1 8 (nI j)) 1 10 (nI (yx_nr v j 0))) (o := 1) (k := 6) (v := nI (j + 0)) rfl]
          rfl
        rw [e1, yy_nm ht2 hs n 0 F (by omega) (by omega) (by omega)]
        simp only [Nat.add_zero]
        generalize hk : yx_E yx_dg v n j = k at *
        unfold zf_M_step_263
        simp only [yt_ii, yt_il, yt_ir, yt_ri, yt_rl, yt_rr, yt_li, yt_ll, yt_lr, Nat.reduceEqDiff, eq_self, and_true, true_and, and_false, false_and, and_self, reduceIte]
        have hnr := yx_nr_le (v := v) (j := j) (k - j)
        rw [show (127 : Int32) = nI 127 from rfl]
        simp (disch := omega) only [yn_lt]
        have etk : yx_tk v n j = (if yx_nn v j (k - j) ≤ 127 then 1003 else 1001, k, yx_nn v j (k - j)) := by
          unfold yx_tk
          rw [if_neg (by omega), if_neg hl, if_pos hd, hk]
        unfold yx_at
        rw [etk]
        rcases yx_nr_nn (v := v) (j := j) (k - j) with ⟨q1, q2⟩ | ⟨q1, q2⟩
        · rw [if_neg (by omega), if_pos (by omega)]
          refine ⟨⟨rfl, rfl, rfl, rfl, fun _ => ?_⟩, ?_⟩
          · show nI (yx_nr v j (k - j)) = nI (yx_nn v j (k - j))
            rw [q2]
          · exact ym_Lw (ym_Lw (ym_Lw (ym_Lw hL (by omega) (by omega)) (by omega) (by omega)) (by omega) (by omega)) (by omega) (by omega)
        · rw [if_pos (by omega), if_neg (by omega)]
          refine ⟨⟨rfl, rfl, rfl, rfl, fun h => absurd (show (1001 : Nat) = 1003 from h) (by decide)⟩, ?_⟩
          exact ym_Lw (ym_Lw (ym_Lw (ym_Lw hL (by omega) (by omega)) (by omega) (by omega)) (by omega) (by omega)) (by omega) (by omega)
      · rw [if_neg hd, if_pos rfl]
        simp only [yt_ii, yt_il, yt_ir, yt_ri, yt_rl, yt_rr, yt_li, yt_ll, yt_lr, Nat.reduceEqDiff, eq_self, and_true, true_and, and_false, false_and, and_self, reduceIte, hs, nI_clamp (show j < 2 ^ 31 by omega), hc]
        rw [yn_b (show j < 1600 by omega) (by decide), zq_gr, nI_1]
        simp (disch := omega) only [yn_le]
        have etk : yx_tk v n j = if yx_find (v j * 256 + (if j + 1 < n then v (j + 1) else 0)) 2 = 1001 then (yx_find (v j) 1, j + 1, 0) else (yx_find (v j * 256 + (if j + 1 < n then v (j + 1) else 0)) 2, j + 2, 0) := by
          unfold yx_tk
          rw [if_neg (by omega), if_neg hl, if_neg hd]
        have fin : ∀ d, d < 256 → d = (if j + 1 < n then v (j + 1) else 0) → yw (zf_M_step_322 F (yby (v j)) (yby d) (zs_wi (zs_wi τ 1 6 (nI j)) 1 8 (nI j))) (fun τ' => yx_at v n j τ' ∧ ym_L τ τ') := by
          intro d hd2 ed
          rw [yy_sg hv hd2 hl]
          unfold yx_at
          rw [etk, ← ed]
          unfold zf_M_step_477
          by_cases q : yx_find (v j * 256 + d) 2 = 1001
          · rw [if_pos q, if_pos q, if_pos q]
            refine ⟨⟨rfl, nI_1 j, nI_1 j, rfl, fun h => ?_⟩, ?_⟩
            · exfalso
              have h : yx_find (v j) 1 = 1003 := h
              rcases yx_fi_r (K := v j) (len := 1) yx_tab 1000 with h1 | ⟨x, h1, h2⟩
              · have h1 : yx_find (v j) 1 = 1001 := h1
                omega
              · have h1 : yx_find (v j) 1 = 1000 + x := h1
                have hx : x = 3 := by omega
                subst hx
                have h2 := congrArg Prod.fst (Option.some.inj h2)
                exact absurd (show (0 : Nat) = 1 from h2) (by decide)
            · exact ym_Lw (ym_Lw (ym_Lw hL (by omega) (by omega)) (by omega) (by omega)) (by omega) (by omega)
          · rw [if_neg q, if_neg q, if_neg q]
            refine ⟨⟨rfl, nI_add j 2, nI_add j 2, rfl, fun h => ?_⟩, ?_⟩
            · exfalso
              have h : yx_find (v j * 256 + d) 2 = 1003 := h
              rcases yx_fi_r (K := v j * 256 + d) (len := 2) yx_tab 1000 with h1 | ⟨x, h1, h2⟩
              · exact q h1
              · have h1 : yx_find (v j * 256 + d) 2 = 1000 + x := h1
                have hx : x = 3 := by omega
                subst hx
                have h2 := congrArg Prod.fst (Option.some.inj h2)
                exact absurd (show (0 : Nat) = 2 from h2) (by decide)
            · exact ym_Lw (ym_Lw (ym_Lw hL (by omega) (by omega)) (by omega) (by omega)) (by omega) (by omega)
        by_cases hj1 : n ≤ j + 1
        · rw [if_pos hj1]
          exact fin 0 (by decide) (by rw [if_neg (by omega)])
        · obtain ⟨hv1, hc1⟩ := ht.2 (j + 1) (by omega)
          rw [if_neg hj1, yn_b (show j + 1 < 1600 by omega) (by decide), zq_gr, nI_clamp (show j + 1 < 2 ^ 31 by omega), hc1]
          exact fin (v (j + 1)) hv1 (by rw [if_pos (by omega)])
end ZXC
