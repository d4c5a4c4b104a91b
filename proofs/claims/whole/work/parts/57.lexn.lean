/-! the reference's lexer: a whole step; is, isName -/
section ZXC
theorem zx_f2 {c d : Nat} (hc : c < 256) (hd : d < 256) (hl : ¬ zx_lt c = true) : zx_find (c * 256 + d) 2 = if c = 124 ∧ d = 124 then 1026 else if c = 38 ∧ d = 38 then 1027 else if c = 61 ∧ d = 61 then 1028 else if c = 33 ∧ d = 61 then 1029 else if c = 60 ∧ d = 61 then 1031 else if c = 62 ∧ d = 61 then 1033 else 1001 := by
  have hl : ¬ (97 ≤ c ∧ c ≤ 122) := fun q => hl (zx_lt_iff.mpr q)
  have e1 : (26982 = c * 256 + d) = False := eq_false (by omega)
  have e2 : (31868 = c * 256 + d) = (c = 124 ∧ d = 124) := propext (by omega)
  have e3 : (9766 = c * 256 + d) = (c = 38 ∧ d = 38) := propext (by omega)
  have e4 : (15677 = c * 256 + d) = (c = 61 ∧ d = 61) := propext (by omega)
  have e5 : (8509 = c * 256 + d) = (c = 33 ∧ d = 61) := propext (by omega)
  have e6 : (15421 = c * 256 + d) = (c = 60 ∧ d = 61) := propext (by omega)
  have e7 : (15933 = c * 256 + d) = (c = 62 ∧ d = 61) := propext (by omega)
  simp only [zx_find, zx_tab, zx_fi, Nat.reduceEqDiff, false_and, true_and, reduceIte, e1, e2, e3, e4, e5, e6, e7, Nat.reduceAdd, OfNat.ofNat_ne_ofNat, OfNat.zero_ne_ofNat, OfNat.one_ne_ofNat]
theorem zx_f1 {c : Nat} : zx_find c 1 = if c = 123 then 1019 else if c = 125 then 1020 else if c = 40 then 1021 else if c = 41 then 1022 else if c = 59 then 1023 else if c = 61 then 1024 else if c = 33 then 1025 else if c = 60 then 1030 else if c = 62 then 1032 else if c = 43 then 1034 else if c = 45 then 1035 else if c = 42 then 1036 else 1001 := by
  simp only [zx_find, zx_tab, zx_fi, Nat.reduceEqDiff, false_and, true_and, reduceIte, Nat.reduceAdd, OfNat.ofNat_ne_one, OfNat.ofNat_ne_ofNat, OfNat.zero_ne_ofNat, zero_ne_one, Nat.zero_ne_one, eq_comm (b := c)]
def zx_kd (c : Nat) : Int32 := if c = 1000 then 0 else if c = 1001 then 4 else if c = 1003 then 2 else if c < 1019 then 1 else 3
theorem zy_sg {F c d : Nat} {τ : zs_S} (hc : c < 256) (hd : d < 256) (hl : ¬ zx_lt c = true) : zf_M_step_322 F (zby c) (zby d) τ = zf_M_step_477 F (if zx_find (c * 256 + d) 2 = 1001 then 0 else 1) (zx_kd (if zx_find (c * 256 + d) 2 = 1001 then zx_find c 1 else zx_find (c * 256 + d) 2)) τ := by
  rw [zx_f2 hc hd hl, zx_f1]
  simp only [zf_M_step_322, zf_M_step_353, zf_M_step_365, zf_M_step_377, zf_M_step_381, zf_M_step_382, zf_M_step_455, zf_M_step_460, zf_M_step_472, zby_61 d hd, zby_61 c hc, zby_33 c hc, zby_60 c hc, zby_62 c hc, zby_38 c hc, zby_38 d hd, zby_124 c hc, zby_124 d hd, zby_123 c hc, zby_125 c hc, zby_40 c hc, zby_41 c hc, zby_59 c hc, zby_43 c hc, zby_45 c hc, zby_42 c hc]
  by_cases h1 : c = 124
  · subst h1
    by_cases k : d = 124
    · subst k; rfl
    · simp [k, zx_kd]
  by_cases h2 : c = 38
  · subst h2
    by_cases k : d = 38
    · subst k; rfl
    · simp [k, zx_kd]
  by_cases h3 : c = 61
  · subst h3
    by_cases k : d = 61
    · subst k; rfl
    · simp [k, zx_kd]
  by_cases h4 : c = 33
  · subst h4
    by_cases k : d = 61
    · subst k; rfl
    · simp [k, zx_kd]
  by_cases h5 : c = 60
  · subst h5
    by_cases k : d = 61
    · subst k; rfl
    · simp [k, zx_kd]
  by_cases h6 : c = 62
  · subst h6
    by_cases k : d = 61
    · subst k; rfl
    · simp [k, zx_kd]
  simp only [h1, h2, h3, h4, h5, h6, false_and, if_false, ite_self]
  by_cases g1 : c = 123
  · subst g1; rfl
  by_cases g2 : c = 125
  · subst g2; rfl
  by_cases g3 : c = 40
  · subst g3; rfl
  by_cases g4 : c = 41
  · subst g4; rfl
  by_cases g5 : c = 59
  · subst g5; rfl
  by_cases g6 : c = 43
  · subst g6; rfl
  by_cases g7 : c = 45
  · subst g7; rfl
  by_cases g8 : c = 42
  · subst g8; rfl
  simp only [g1, g2, g3, g4, g5, g6, g7, g8, if_false]
  rfl
/-- a word's token: a name or one of the words -/
theorem zx_wd {v : Nat → Nat} {j m : Nat} (h : zx_lt (v j) = true) (hm : 0 < m) (hm8 : m ≤ 8) (hb : ∀ x, x < m → v (j + x) < 128) : zx_find (zx_pn v j m) m = 1001 ∨ (1005 ≤ zx_find (zx_pn v j m) m ∧ zx_find (zx_pn v j m) m < 1019) := by
  have hl := zx_lt_iff.mp h
  rcases zx_fi_r (K := zx_pn v j m) (len := m) zx_tab 1000 with h1 | ⟨x, h1, h2⟩
  · exact Or.inl h1
  · right
    have h1 : zx_find (zx_pn v j m) m = 1000 + x := h1
    rw [h1]
    have t1 : ∀ x, x < 37 → ∀ p, zx_tab[x]? = some p → (x < 5 → p.1 = 0) ∧ (19 ≤ x → (p.1 = 1 ∧ (p.2 < 97 ∨ 122 < p.2)) ∨ (p.1 = 2 ∧ (p.2 / 256 < 97 ∨ 122 < p.2 / 256))) := by
      intro x hx p hp
      have : ∀ x, x < 37 → (x < 5 → (zx_tab.getD x (0, 0)).1 = 0) ∧ (19 ≤ x → ((zx_tab.getD x (0, 0)).1 = 1 ∧ ((zx_tab.getD x (0, 0)).2 < 97 ∨ 122 < (zx_tab.getD x (0, 0)).2)) ∨ ((zx_tab.getD x (0, 0)).1 = 2 ∧ ((zx_tab.getD x (0, 0)).2 / 256 < 97 ∨ 122 < (zx_tab.getD x (0, 0)).2 / 256))) := by decide +kernel
      have e : zx_tab.getD x (0, 0) = p := by
        rw [List.getD_eq_getElem?_getD, hp]
        rfl
      have := this x hx
      rw [e] at this
      exact this
    have hx : x < 37 := by
      have := (List.getElem?_eq_some_iff.mp h2).1
      exact this
    obtain ⟨a, b⟩ := t1 x hx _ h2
    refine ⟨?_, ?_⟩
    · by_cases q : x < 5
      · have := a q
        omega
      · omega
    · by_cases q : 19 ≤ x
      · exfalso
        have hv0 := hb 0 hm
        rcases b q with ⟨e1, e2⟩ | ⟨e1, e2⟩
        · have e1 : m = 1 := e1
          subst e1
          simp only [zx_pn, Nat.add_zero] at e2
          omega
        · have e1 : m = 2 := e1
          subst e1
          have hv1 := hb 1 (by omega)
          simp only [zx_pn, Nat.add_zero] at e2
          omega
      · omega
/-- the reference stands at the token at place j -/
def zx_at (v : Nat → Nat) (n j : Nat) (τ : zs_S) : Prop := zs_i τ 1 8 = nI j ∧ zs_i τ 1 9 = nI (zx_tk v n j).2.1 ∧ zs_i τ 1 6 = nI (zx_tk v n j).2.1 ∧ zs_i τ 1 7 = zx_kd (zx_tk v n j).1 ∧ ((zx_tk v n j).1 = 1003 → zs_i τ 1 10 = nI (zx_tk v n j).2.2)
def zm_L (τ τ' : zs_S) : Prop := (∀ o k, ¬ (o = 1 ∧ 6 ≤ k ∧ k ≤ 10) → zs_i τ' o k = zs_i τ o k) ∧ (∀ o k, zs_r τ' o k = zs_r τ o k)
theorem zm_Lr (τ : zs_S) : zm_L τ τ := ⟨fun _ _ _ => rfl, fun _ _ => rfl⟩
theorem zm_Lt {a b c : zs_S} (h : zm_L a b) (g : zm_L b c) : zm_L a c := ⟨fun o k q => (g.1 o k q).trans (h.1 o k q), fun o k => (g.2 o k).trans (h.2 o k)⟩
theorem zm_Lw {τ σ : zs_S} {k : Nat} {x : Int32} (h : zm_L τ σ) (hk : 6 ≤ k) (hk2 : k ≤ 10) : zm_L τ (zs_wi σ 1 k x) := by
  refine ⟨fun o j q => ?_, fun o j => h.2 o j⟩
  rw [zt_ii, if_neg (fun e => q ⟨e.1, by omega, by omega⟩)]
  exact h.1 o j q
theorem zy_step {F n i : Nat} {v : Nat → Nat} {τ : zs_S} (ht : zx_TP v n τ) (hs : zs_i τ 1 5 = nI n) (hn : zs_i τ 1 6 = nI i) (hi : i ≤ n) (hF : 1600 < F) : zw (zf_M_step F τ) (fun τ' => zx_at v n (zx_E zx_sp v n i) τ' ∧ zm_L τ τ') := by
  have hn16 := ht.1
  unfold zf_M_step
  have e0 : zf_M_step_0 F F τ = zf_M_step_0 F F (zs_wi τ 1 6 (nI i)) := by rw [zt_ws hn]
  rw [e0, zy_sp ht hs n i F (by omega) hi (by omega)]
  have hj := zx_E_n (P := zx_sp) (v := v) hi
  generalize zx_E zx_sp v n i = j at hj
  unfold zf_M_step_52
  simp only [zq_v, zt_ii, zt_il, zt_ir, zt_ri, zt_rl, zt_rr, zt_li, zt_ll, zt_lr, Nat.reduceEqDiff, eq_self, and_true, true_and, and_false, false_and, and_self, reduceIte, hs, zn_eq (show j < 2 ^ 31 by omega) (show n < 2 ^ 31 by omega), nI_clamp (show j < 2 ^ 31 by omega)]
  by_cases hjn : j = n
  · subst hjn
    rw [if_pos rfl]
    have e : zx_tk v j j = (1000, j, 0) := if_pos (Nat.le_refl j)
    unfold zx_at
    rw [e]
    refine ⟨⟨rfl, rfl, rfl, rfl, fun h => absurd h (by decide)⟩, ?_⟩
    exact zm_Lw (zm_Lw (zm_Lw (zm_Lw (zm_Lr τ) (by omega) (by omega)) (by omega) (by omega)) (by omega) (by omega)) (by omega) (by omega)
  · have hlt : j < n := by omega
    obtain ⟨hv, hc⟩ := ht.2 j hlt
    rw [if_neg hjn, zn_b (show j < 1600 by omega) (by decide), zq_gr, hc, zy_small hv, zq_cr]
    have hL : zm_L τ (zs_wi (zs_wi τ 1 6 (nI j)) 1 8 (nI j)) := zm_Lw (zm_Lw (zm_Lr τ) (by omega) (by omega)) (by omega) (by omega)
    by_cases hl : zx_lt (v j) = true
    · rw [if_pos hl, if_neg (by decide)]
      have hE := zx_E_n (P := zx_ld) (v := v) (show j ≤ n by omega)
      have hE1 : j < zx_E zx_ld v n j := by
        rw [zx_Es hlt (zx_ld_iff.mpr (Or.inl hl))]
        exact zx_E_le
      have hall : ∀ x, x < zx_E zx_ld v n j - j → v (j + x) < 128 := by
        intro x hx
        rcases zx_ld_iff.mp (zx_E_all (P := zx_ld) (v := v) (n := n) (i := j) (x := j + x) (by omega) (by omega)) with q | q
        · have := zx_lt_iff.mp q
          omega
        · have := zx_dg_iff.mp q
          omega
      have ht2 : zx_TP v n (zs_wi (zs_wi τ 1 6 (nI j)) 1 8 (nI j)) := ⟨ht.1, fun x hx => ht.2 x hx⟩
      have e1 : zf_M_step_94 F F (zs_wi (zs_wi τ 1 6 (nI j)) 1 8 (nI j)) = zf_M_step_94 F F (zs_wi (zs_wi (zs_wi τ 1 6 (nI j)) 1 8 (nI j)) 1 6 (nI j)) := by
        rw [zt_ws (σ := zs_wi (zs_wi τ 1 6 (nI j)) 1 8 (nI j)) rfl]
      rw [e1, zy_wd ht2 hs n j F (by omega) (by omega) (by omega)]
      generalize hk : zx_E zx_ld v n j = k at *
      unfold zf_M_step_148
      simp only [zt_ii, zt_il, zt_ir, zt_ri, zt_rl, zt_rr, zt_li, zt_ll, zt_lr, Nat.reduceEqDiff, eq_self, and_true, true_and, and_false, false_and, and_self, reduceIte]
      rw [pk_sub (by omega), show (8 : Int32) = nI 8 from rfl, zn_lt (by omega) (by omega)]
      have etk : zx_tk v n j = (if k - j ≤ 8 then (if zx_find (zx_pn v j (k - j)) (k - j) = 1001 then 1002 else zx_find (zx_pn v j (k - j)) (k - j)) else 1001, k, zx_pn v j (k - j)) := by
        unfold zx_tk
        rw [if_neg (by omega), if_pos hl, hk]
      unfold zx_at
      rw [etk]
      by_cases h8 : k - j ≤ 8
      · rw [if_neg (by omega), if_pos h8]
        have ekd : zx_kd (if zx_find (zx_pn v j (k - j)) (k - j) = 1001 then 1002 else zx_find (zx_pn v j (k - j)) (k - j)) = 1 ∧ (if zx_find (zx_pn v j (k - j)) (k - j) = 1001 then 1002 else zx_find (zx_pn v j (k - j)) (k - j)) ≠ 1003 := by
          rcases zx_wd hl (show 0 < k - j by omega) h8 hall with q | q
          · rw [if_pos q]
            decide
          · rw [if_neg (by omega)]
            unfold zx_kd
            rw [if_neg (by omega), if_neg (by omega), if_neg (by omega), if_pos (by omega)]
            exact ⟨rfl, by omega⟩
        refine ⟨⟨rfl, rfl, rfl, ekd.1.symm, fun h => absurd h ekd.2⟩, ?_⟩
        exact zm_Lw (zm_Lw (zm_Lw hL (by omega) (by omega)) (by omega) (by omega)) (by omega) (by omega)
      · rw [if_pos (by omega), if_neg h8]
        refine ⟨⟨rfl, rfl, rfl, rfl, fun h => absurd h (by decide)⟩, ?_⟩
        exact zm_Lw (zm_Lw (zm_Lw hL (by omega) (by omega)) (by omega) (by omega)) (by omega) (by omega)
    · rw [if_neg hl, if_pos rfl]
      simp only [zt_ii, zt_il, zt_ir, zt_ri, zt_rl, zt_rr, zt_li, zt_ll, zt_lr, Nat.reduceEqDiff, eq_self, and_true, true_and, and_false, false_and, and_self, reduceIte, nI_clamp (show j < 2 ^ 31 by omega)]
      rw [zn_b (show j < 1600 by omega) (by decide), zq_gr, hc, zy_digit hv, zq_cr]
      by_cases hd : zx_dg (v j) = true
      · rw [if_pos hd, if_neg (by decide)]
        have hE := zx_E_n (P := zx_dg) (v := v) (show j ≤ n by omega)
        have hE1 : j < zx_E zx_dg v n j := by
          rw [zx_Es hlt hd]
          exact zx_E_le
        have ht2 : zx_TP v n (zs_wi (zs_wi τ 1 6 (nI j)) 1 8 (nI j)) := ⟨ht.1, fun x hx => ht.2 x hx⟩
        have e1 : zf_M_step_194 F F (zs_wi (zs_wi (zs_wi τ 1 6 (nI j)) 1 8 (nI j)) 1 10 0) = zf_M_step_194 F F (zs_wi (zs_wi (zs_wi (zs_wi τ 1 6 (nI j)) 1 8 (nI j)) 1 10 (nI (zx_nr v j 0))) 1 6 (nI (j + 0))) := by
          rw [zt_ws (σ := zs_wi (zs_wi (zs_wi τ 1 6 (nI j)) 1 8 (nI j)) 1 10 (nI (zx_nr v j 0))) rfl]
          rfl
        rw [e1, zy_nm ht2 hs n 0 F (by omega) (by omega) (by omega)]
        simp only [Nat.add_zero]
        generalize hk : zx_E zx_dg v n j = k at *
        unfold zf_M_step_263
        simp only [zt_ii, zt_il, zt_ir, zt_ri, zt_rl, zt_rr, zt_li, zt_ll, zt_lr, Nat.reduceEqDiff, eq_self, and_true, true_and, and_false, false_and, and_self, reduceIte]
        have hnr := zx_nr_le (v := v) (j := j) (k - j)
        rw [show (127 : Int32) = nI 127 from rfl, zn_lt (by omega) (by omega)]
        have etk : zx_tk v n j = (if zx_nn v j (k - j) ≤ 127 then 1003 else 1001, k, zx_nn v j (k - j)) := by
          unfold zx_tk
          rw [if_neg (by omega), if_neg hl, if_pos hd, hk]
        unfold zx_at
        rw [etk]
        rcases zx_nr_nn (v := v) (j := j) (k - j) with ⟨q1, q2⟩ | ⟨q1, q2⟩
        · rw [if_neg (by omega), if_pos (by omega)]
          refine ⟨⟨rfl, rfl, rfl, rfl, fun _ => ?_⟩, ?_⟩
          · show nI (zx_nr v j (k - j)) = nI (zx_nn v j (k - j))
            rw [q2]
          · exact zm_Lw (zm_Lw (zm_Lw (zm_Lw hL (by omega) (by omega)) (by omega) (by omega)) (by omega) (by omega)) (by omega) (by omega)
        · rw [if_pos (by omega), if_neg (by omega)]
          refine ⟨⟨rfl, rfl, rfl, rfl, fun h => absurd h (by decide)⟩, ?_⟩
          exact zm_Lw (zm_Lw (zm_Lw (zm_Lw hL (by omega) (by omega)) (by omega) (by omega)) (by omega) (by omega)) (by omega) (by omega)
      · rw [if_neg hd, if_pos rfl]
        simp only [zt_ii, zt_il, zt_ir, zt_ri, zt_rl, zt_rr, zt_li, zt_ll, zt_lr, Nat.reduceEqDiff, eq_self, and_true, true_and, and_false, false_and, and_self, reduceIte, hs, nI_clamp (show j < 2 ^ 31 by omega), hc]
        rw [zn_b (show j < 1600 by omega) (by decide), zq_gr, nI_1, zn_le (by omega) (by omega)]
        have etk : zx_tk v n j = if zx_find (v j * 256 + (if j + 1 < n then v (j + 1) else 0)) 2 = 1001 then (zx_find (v j) 1, j + 1, 0) else (zx_find (v j * 256 + (if j + 1 < n then v (j + 1) else 0)) 2, j + 2, 0) := by
          unfold zx_tk
          rw [if_neg (by omega), if_neg hl, if_neg hd]
        have fin : ∀ d, d < 256 → d = (if j + 1 < n then v (j + 1) else 0) → zw (zf_M_step_322 F (zby (v j)) (zby d) (zs_wi (zs_wi τ 1 6 (nI j)) 1 8 (nI j))) (fun τ' => zx_at v n j τ' ∧ zm_L τ τ') := by
          intro d hd2 ed
          rw [zy_sg hv hd2 hl]
          unfold zx_at
          rw [etk, ← ed]
          unfold zf_M_step_477
          by_cases q : zx_find (v j * 256 + d) 2 = 1001
          · rw [if_pos q, if_pos q, if_pos q]
            refine ⟨⟨rfl, nI_1 j, nI_1 j, rfl, fun h => ?_⟩, ?_⟩
            · exfalso
              have h : zx_find (v j) 1 = 1003 := h
              rcases zx_fi_r (K := v j) (len := 1) zx_tab 1000 with h1 | ⟨x, h1, h2⟩
              · have h1 : zx_find (v j) 1 = 1001 := h1
                omega
              · have h1 : zx_find (v j) 1 = 1000 + x := h1
                have hx : x = 3 := by omega
                subst hx
                have h2 := congrArg Prod.fst (Option.some.inj h2)
                exact absurd h2 (by decide)
            · exact zm_Lw (zm_Lw (zm_Lw hL (by omega) (by omega)) (by omega) (by omega)) (by omega) (by omega)
          · rw [if_neg q, if_neg q, if_neg q]
            refine ⟨⟨rfl, nI_add j 2, nI_add j 2, rfl, fun h => ?_⟩, ?_⟩
            · exfalso
              have h : zx_find (v j * 256 + d) 2 = 1003 := h
              rcases zx_fi_r (K := v j * 256 + d) (len := 2) zx_tab 1000 with h1 | ⟨x, h1, h2⟩
              · exact q h1
              · have h1 : zx_find (v j * 256 + d) 2 = 1000 + x := h1
                have hx : x = 3 := by omega
                subst hx
                have h2 := congrArg Prod.fst (Option.some.inj h2)
                exact absurd h2 (by decide)
            · exact zm_Lw (zm_Lw (zm_Lw hL (by omega) (by omega)) (by omega) (by omega)) (by omega) (by omega)
        by_cases hj1 : n ≤ j + 1
        · rw [if_pos hj1]
          exact fin 0 (by decide) (by rw [if_neg (by omega)])
        · obtain ⟨hv1, hc1⟩ := ht.2 (j + 1) (by omega)
          rw [if_neg hj1, zn_b (show j + 1 < 1600 by omega) (by decide), zq_gr, nI_clamp (show j + 1 < 2 ^ 31 by omega), hc1]
          exact fin (v (j + 1)) hv1 (by rw [if_pos (by omega)])
end ZXC
