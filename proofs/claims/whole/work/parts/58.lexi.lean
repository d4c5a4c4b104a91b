/-! the reference's lexer: is, isName -/
section ZXD
theorem yx_tkx {v : Nat → Nat} {n j : Nat} (hb : ∀ x, x < n → v x < 256) : ((yx_tk v n j).1 = 1000 ∨ (yx_tk v n j).1 = 1001 ∨ (yx_tk v n j).1 = 1003) ∨ (j < (yx_tk v n j).2.1 ∧ (yx_tk v n j).2.1 ≤ n ∧ (yx_tk v n j).2.1 - j ≤ 8 ∧ (∀ x, x < (yx_tk v n j).2.1 - j → v (j + x) < 128) ∧ (((yx_tk v n j).1 = 1002 ∧ yx_find (yx_pn v j ((yx_tk v n j).2.1 - j)) ((yx_tk v n j).2.1 - j) = 1001 ∧ (yx_tk v n j).2.2 = yx_pn v j ((yx_tk v n j).2.1 - j)) ∨ ((yx_tk v n j).1 = yx_find (yx_pn v j ((yx_tk v n j).2.1 - j)) ((yx_tk v n j).2.1 - j) ∧ 1005 ≤ (yx_tk v n j).1 ∧ (yx_tk v n j).1 < 1037))) := by
  unfold yx_tk
  by_cases hj : n ≤ j
  · rw [if_pos hj]
    exact Or.inl (Or.inl rfl)
  rw [if_neg hj]
  have hlt : j < n := by omega
  by_cases hl : yx_lt (v j) = true
  · rw [if_pos hl]
    have hE := yx_E_n (P := yx_ld) (v := v) (show j ≤ n by omega)
    have hE1 : j < yx_E yx_ld v n j := by
      rw [yx_Es hlt (yx_ld_iff.mpr (Or.inl hl))]
      exact yx_E_le
    have hall : ∀ x, x < yx_E yx_ld v n j - j → v (j + x) < 128 := by
      intro x hx
      rcases yx_ld_iff.mp (yx_E_all (P := yx_ld) (v := v) (n := n) (i := j) (x := j + x) (by omega) (by omega)) with q | q
      · have := yx_lt_iff.mp q
        omega
      · have := yx_dg_iff.mp q
        omega
    generalize yx_E yx_ld v n j = k at *
    by_cases h8 : k - j ≤ 8
    · rw [if_pos h8]
      right
      refine ⟨hE1, hE, h8, hall, ?_⟩
      rcases yx_wd hl (show 0 < k - j by omega) h8 hall with q | q
      · rw [if_pos q]
        exact Or.inl ⟨rfl, q, rfl⟩
      · rw [if_neg (by omega)]
        exact Or.inr ⟨rfl, q.1, by show yx_find (yx_pn v j (k - j)) (k - j) < 1037; omega⟩
    · rw [if_neg h8]
      exact Or.inl (Or.inr (Or.inl rfl))
  rw [if_neg hl]
  by_cases hd : yx_dg (v j) = true
  · rw [if_pos hd]
    left
    by_cases q : yx_nn v j (yx_E yx_dg v n j - j) ≤ 127
    · rw [if_pos q]
      exact Or.inr (Or.inr rfl)
    · rw [if_neg q]
      exact Or.inr (Or.inl rfl)
  rw [if_neg hd]
  have hv := hb j hlt
  have hd2 : (if j + 1 < n then v (j + 1) else 0) < 256 := by
    by_cases q : j + 1 < n
    · rw [if_pos q]
      exact hb _ q
    · rw [if_neg q]
      decide
  have e2 := yx_f2d hv hd2 hl
  have e1 := yx_f1d (c := v j)
  by_cases q : yx_find (v j * 256 + (if j + 1 < n then v (j + 1) else 0)) 2 = 1001
  · rw [if_pos q]
    by_cases r : yx_find (v j) 1 = 1001
    · exact Or.inl (Or.inr (Or.inl r))
    · right
      have e3 : j + 1 - j = 1 := by omega
      have e4 : yx_pn v j 1 = v j := by simp only [yx_pn, Nat.add_zero]; omega
      refine ⟨Nat.lt_succ_self j, hlt, ?_, ?_, Or.inr ?_⟩
      · show j + 1 - j ≤ 8
        omega
      · show ∀ x, x < j + 1 - j → v (j + x) < 128
        intro x hx
        have : x = 0 := by omega
        subst this
        show v j < 128
        omega
      · show yx_find (v j) 1 = yx_find (yx_pn v j (j + 1 - j)) (j + 1 - j) ∧ 1005 ≤ yx_find (v j) 1 ∧ yx_find (v j) 1 < 1037
        rw [e3, e4]
        refine ⟨rfl, ?_⟩
        omega
  · rw [if_neg q]
    right
    have hj1 : j + 1 < n := by
      by_cases r : j + 1 < n
      · exact r
      · rw [if_neg r] at q e2
        omega
    rw [if_pos hj1] at e2 q ⊢
    have e3 : j + 2 - j = 2 := by omega
    have e4 : yx_pn v j 2 = v j * 256 + v (j + 1) := by simp only [yx_pn, Nat.add_zero]; omega
    refine ⟨by show j < j + 2; omega, hj1, by show j + 2 - j ≤ 8; omega, ?_, Or.inr ?_⟩
    · show ∀ x, x < j + 2 - j → v (j + x) < 128
      intro x hx
      have : x = 0 ∨ x = 1 := by omega
      rcases this with h | h
      · subst h
        show v j < 128
        omega
      · subst h
        omega
    · show yx_find (v j * 256 + v (j + 1)) 2 = yx_find (yx_pn v j (j + 2 - j)) (j + 2 - j) ∧ 1005 ≤ yx_find (v j * 256 + v (j + 1)) 2 ∧ yx_find (v j * 256 + v (j + 1)) 2 < 1037
      rw [e3, e4]
      refine ⟨rfl, ?_⟩
      omega
theorem yx_len : ∀ e, e < 32 → (nI (zd_sln (1400 + e))) >>> ((0 : Int32) &&& 31) = nI (zd_sln (1400 + e)) := by decide +kernel
theorem yx_chr : ∀ e, e < 32 → ∀ x, x < zd_sln (1400 + e) → (((zd_sby (1400 + e) x &&& 255 : Int32)).toUInt32 % 65536).toInt32 = nI (yx_sv e x) ∧ zq_nc (nI (yx_sv e x)) = true := by decide +kernel
theorem yx_qs {e : Nat} (he : e < 32) : zq_s (1300 + e) = true := by
  unfold zq_s
  rw [decide_eq_true (by omega), decide_eq_true (by omega)]
  rfl
theorem yx_qv {e : Nat} (he : e < 32) : zq_sv (1400 + e) = true := by
  unfold zq_sv
  rw [decide_eq_true (by omega), decide_eq_true (by omega)]
  rfl
theorem yy_len {F e : Nat} {τ : zs_S} (he : e < 32) : zf_String_length1 F (1300 + e) τ = some (nI (zd_sln (1400 + e)), τ) := by
  have e100 : 1300 + e + 100 = 1400 + e := by omega
  unfold zf_String_length1 zf_String_coder1 zf_String_coder1_14
  rw [e100, yx_qs he, yx_qv he, zq_gr, zq_gr, zq_gr, if_neg (by decide), zq_gr, show zq_nb 0 = true by decide, zq_gr, zq_cr, yx_len e he]
theorem yy_chr {F e x : Nat} {τ : zs_S} (he : e < 32) (hx : x < zd_sln (1400 + e)) : zf_String_charAt1 F (1300 + e) (nI x) τ = some (nI (yx_sv e x), τ) := by
  obtain ⟨h1, h2⟩ := yx_chr e he x hx
  have hl := (yx_s2 e he).2.2.1
  unfold zf_String_charAt1 zf_String_isLatin11 zf_String_isLatin11_18
  rw [yx_qs he, zq_gr, if_neg (by decide), zq_gr, if_pos rfl, show zq_z 1 = true by decide, zq_gr, zq_cr, if_neg (by decide), zq_gr]
  have e100 : 1300 + e + 100 = 1400 + e := by omega
  rw [e100]
  unfold zf_StringLatin1_charAt1 zf_String_checkIndex1 zf_Preconditions_checkIndex1n
  rw [yx_qv he, zq_gr, if_neg (nI_pos (by omega)), if_pos (nI_lt hx (by omega)), zq_cr, zq_dr, zq_gr, yn_b hx (by omega), zq_gr, nI_clamp (by omega), h1, h2, zq_gr, zq_cr, h2, zq_gr]
/-- the reference stands at token j; all that its questions need -/
def yx_A (F : Nat) (v : Nat → Nat) (n j : Nat) (τ : zs_S) : Prop := yx_TP v n τ ∧ yx_at v n j τ ∧ j ≤ n ∧ 1600 < F
theorem yy_is36 {F n j e : Nat} {v : Nat → Nat} {τ : zs_S} (he : e < 32) (ht : yx_TP v n τ) (hf : zs_i τ 1 8 = nI j) (hk : j + zd_sln (1400 + e) ≤ n) : ∀ d x N, zd_sln (1400 + e) - x ≤ d → x ≤ zd_sln (1400 + e) → d < N → ((∀ y, x ≤ y → y < zd_sln (1400 + e) → v (j + y) = yx_sv e y) → zf_M_is_36 F N (1300 + e) (nI x) τ = some (1, τ)) ∧ ((¬ ∀ y, x ≤ y → y < zd_sln (1400 + e) → v (j + y) = yx_sv e y) → zf_M_is_36 F N (1300 + e) (nI x) τ = some (0, τ)) := by
  have hl := (yx_s2 e he).2.2.1
  have hn := ht.1
  intro d
  induction d with
  | zero =>
    intro x N h1 h2 h3
    obtain ⟨N, rfl⟩ : ∃ q, N = q + 1 := ⟨N - 1, by omega⟩
    refine ⟨fun _ => ?_, fun h => absurd (fun y h1 h2 => by omega) h⟩
    rw [zf_M_is_36, yx_qs he, zq_gr, yy_len he, zq_cr, if_pos (nI_le (by omega) (by omega))]
  | succ d ih =>
    intro x N h1 h2 h3
    obtain ⟨N, rfl⟩ : ∃ q, N = q + 1 := ⟨N - 1, by omega⟩
    rw [zf_M_is_36, yx_qs he, zq_gr, yy_len he, zq_cr]
    by_cases hx : x < zd_sln (1400 + e)
    · obtain ⟨hv, hc⟩ := ht.2 (j + x) (by omega)
      obtain ⟨hs1, -⟩ := yx_s3 e he x hx
      rw [if_neg (nI_ge hx (by omega)), hf, nI_add, yn_b (show j + x < 1600 by omega) (by decide), zq_gr, zq_gr, yy_chr he hx, zq_cr, nI_clamp (by omega), hc]
      by_cases q : v (j + x) = yx_sv e x
      · rw [if_pos ((yby_inj _ hv _ hs1).mpr q)]
        show _ ∧ _
        simp only [zq_v, nI_1]
        obtain ⟨g1, g2⟩ := ih (x + 1) N (by omega) (by omega) (by omega)
        refine ⟨fun h => g1 (fun y k1 k2 => h y (by omega) k2), fun h => g2 (fun h' => h (fun y k1 k2 => ?_))⟩
        by_cases r : y = x
        · subst r
          exact q
        · exact h' y (by omega) k2
      · rw [if_neg (fun r => q ((yby_inj _ hv _ hs1).mp r))]
        exact ⟨fun h => absurd (h x (Nat.le_refl x) hx) q, fun _ => rfl⟩
    · rw [if_pos (nI_le (by omega) (by omega))]
      exact ⟨fun _ => rfl, fun h => absurd (fun y h1 h2 => by omega) h⟩
theorem yy_is {F n j e : Nat} {v : Nat → Nat} {τ : zs_S} (he : e < 32) (h : yx_A F v n j τ) : zf_M_is F (1300 + e) τ = some (if (yx_tk v n j).1 = yx_sc.getD e 0 then 1 else 0, τ) := by
  obtain ⟨ht, ⟨a1, a2, a3, a4, a5⟩, hj, hF⟩ := h
  obtain ⟨-, s2, s3, s4⟩ := yx_s2 e he
  have hn := ht.1
  unfold zf_M_is
  rcases yx_tkx (v := v) (n := n) (j := j) (fun x hx => (ht.2 x hx).1) with hc | ⟨k1, k2, k3, k4, k5⟩
  · rw [if_neg (show ¬ (yx_tk v n j).1 = yx_sc.getD e 0 by omega), a4]
    have : yx_kd (yx_tk v n j).1 ≠ 1 ∧ yx_kd (yx_tk v n j).1 ≠ 3 := by
      rcases hc with h | h | h <;> rw [h] <;> decide
    rw [if_neg this.1, if_neg this.2]
    rfl
  · have key : zf_M_is_16 F (1300 + e) τ = some (if (yx_tk v n j).1 = yx_sc.getD e 0 then 1 else 0, τ) := by
      generalize hkk : (yx_tk v n j).2.1 = k at *
      unfold zf_M_is_16
      rw [yx_qs he, zq_gr, yy_len he, zq_cr, a1, a2, pk_sub (by omega)]
      simp (disch := omega) only [yn_eq]
      by_cases hl : k - j = zd_sln (1400 + e)
      · rw [if_pos hl]
        obtain ⟨g1, g2⟩ := yy_is36 (F := F) (v := v) (n := n) (τ := τ) he ht a1 (by omega) (zd_sln (1400 + e)) 0 F (by omega) (by omega) (by omega)
        have iff : (yx_tk v n j).1 = yx_sc.getD e 0 ↔ (∀ y, 0 ≤ y → y < zd_sln (1400 + e) → v (j + y) = yx_sv e y) := by
          constructor
          · intro q y _ hy
            rcases k5 with ⟨q1, q2, -⟩ | ⟨q1, q2, q3⟩
            · omega
            · rw [q] at q1
              have q4 := ((yx_fs he).mp q1.symm).2
              rw [hl] at q4
              have := yx_pn_inj (v := v) (w := yx_sv e) (j := j) (i := 0) (zd_sln (1400 + e)) (fun x hx => by have := k4 x (by omega); omega) (fun x hx => by rw [Nat.zero_add]; have := (yx_s3 e he x hx).1; omega) q4 y hy
              rw [Nat.zero_add] at this
              exact this
          · intro q
            have q4 : yx_pn v j (k - j) = yx_pn (yx_sv e) 0 (zd_sln (1400 + e)) := by
              rw [hl]
              exact yx_pn_eq _ (fun x hx => by rw [Nat.zero_add]; exact q x (Nat.zero_le x) hx)
            have q5 := (yx_fs (K := yx_pn v j (k - j)) (len := k - j) he).mpr ⟨hl, q4⟩
            rcases k5 with ⟨q1, q2, -⟩ | ⟨q1, q2, q3⟩
            · omega
            · omega
        by_cases q : (yx_tk v n j).1 = yx_sc.getD e 0
        · rw [if_pos q]
          exact g1 (iff.mp q)
        · rw [if_neg q]
          exact g2 (fun r => q (iff.mpr r))
      · rw [if_neg hl, if_neg]
        · rfl
        · intro q
          rcases k5 with ⟨q1, q2, -⟩ | ⟨q1, q2, q3⟩
          · omega
          · rw [q] at q1
            exact hl ((yx_fs he).mp q1.symm).1
    by_cases q : zs_i τ 1 7 = 1
    · rw [if_pos q]
      exact key
    · rw [if_neg q, if_pos]
      · exact key
      · rw [a4] at q ⊢
        unfold yx_kd at q ⊢
        have r1 : ¬ (yx_tk v n j).1 = 1000 := by omega
        have r2 : ¬ (yx_tk v n j).1 = 1001 := by omega
        have r3 : ¬ (yx_tk v n j).1 = 1003 := by omega
        rw [if_neg r1, if_neg r2, if_neg r3] at q ⊢
        by_cases r4 : (yx_tk v n j).1 < 1019
        · rw [if_pos r4] at q
          exact absurd rfl q
        · rw [if_neg r4]
theorem yi_1300 {F n j : Nat} {v : Nat → Nat} {τ : zs_S} (h : yx_A F v n j τ) : zf_M_is F 1300 τ = some (if (yx_tk v n j).1 = 1005 then 1 else 0, τ) := yy_is (e := 0) (by decide) h
theorem yi_1301 {F n j : Nat} {v : Nat → Nat} {τ : zs_S} (h : yx_A F v n j τ) : zf_M_is F 1301 τ = some (if (yx_tk v n j).1 = 1006 then 1 else 0, τ) := yy_is (e := 1) (by decide) h
theorem yi_1302 {F n j : Nat} {v : Nat → Nat} {τ : zs_S} (h : yx_A F v n j τ) : zf_M_is F 1302 τ = some (if (yx_tk v n j).1 = 1007 then 1 else 0, τ) := yy_is (e := 2) (by decide) h
theorem yi_1303 {F n j : Nat} {v : Nat → Nat} {τ : zs_S} (h : yx_A F v n j τ) : zf_M_is F 1303 τ = some (if (yx_tk v n j).1 = 1008 then 1 else 0, τ) := yy_is (e := 3) (by decide) h
theorem yi_1304 {F n j : Nat} {v : Nat → Nat} {τ : zs_S} (h : yx_A F v n j τ) : zf_M_is F 1304 τ = some (if (yx_tk v n j).1 = 1009 then 1 else 0, τ) := yy_is (e := 4) (by decide) h
theorem yi_1305 {F n j : Nat} {v : Nat → Nat} {τ : zs_S} (h : yx_A F v n j τ) : zf_M_is F 1305 τ = some (if (yx_tk v n j).1 = 1010 then 1 else 0, τ) := yy_is (e := 5) (by decide) h
theorem yi_1306 {F n j : Nat} {v : Nat → Nat} {τ : zs_S} (h : yx_A F v n j τ) : zf_M_is F 1306 τ = some (if (yx_tk v n j).1 = 1011 then 1 else 0, τ) := yy_is (e := 6) (by decide) h
theorem yi_1307 {F n j : Nat} {v : Nat → Nat} {τ : zs_S} (h : yx_A F v n j τ) : zf_M_is F 1307 τ = some (if (yx_tk v n j).1 = 1012 then 1 else 0, τ) := yy_is (e := 7) (by decide) h
theorem yi_1308 {F n j : Nat} {v : Nat → Nat} {τ : zs_S} (h : yx_A F v n j τ) : zf_M_is F 1308 τ = some (if (yx_tk v n j).1 = 1013 then 1 else 0, τ) := yy_is (e := 8) (by decide) h
theorem yi_1309 {F n j : Nat} {v : Nat → Nat} {τ : zs_S} (h : yx_A F v n j τ) : zf_M_is F 1309 τ = some (if (yx_tk v n j).1 = 1014 then 1 else 0, τ) := yy_is (e := 9) (by decide) h
theorem yi_1310 {F n j : Nat} {v : Nat → Nat} {τ : zs_S} (h : yx_A F v n j τ) : zf_M_is F 1310 τ = some (if (yx_tk v n j).1 = 1015 then 1 else 0, τ) := yy_is (e := 10) (by decide) h
theorem yi_1311 {F n j : Nat} {v : Nat → Nat} {τ : zs_S} (h : yx_A F v n j τ) : zf_M_is F 1311 τ = some (if (yx_tk v n j).1 = 1016 then 1 else 0, τ) := yy_is (e := 11) (by decide) h
theorem yi_1312 {F n j : Nat} {v : Nat → Nat} {τ : zs_S} (h : yx_A F v n j τ) : zf_M_is F 1312 τ = some (if (yx_tk v n j).1 = 1017 then 1 else 0, τ) := yy_is (e := 12) (by decide) h
theorem yi_1313 {F n j : Nat} {v : Nat → Nat} {τ : zs_S} (h : yx_A F v n j τ) : zf_M_is F 1313 τ = some (if (yx_tk v n j).1 = 1018 then 1 else 0, τ) := yy_is (e := 13) (by decide) h
theorem yi_1314 {F n j : Nat} {v : Nat → Nat} {τ : zs_S} (h : yx_A F v n j τ) : zf_M_is F 1314 τ = some (if (yx_tk v n j).1 = 1024 then 1 else 0, τ) := yy_is (e := 14) (by decide) h
theorem yi_1315 {F n j : Nat} {v : Nat → Nat} {τ : zs_S} (h : yx_A F v n j τ) : zf_M_is F 1315 τ = some (if (yx_tk v n j).1 = 1035 then 1 else 0, τ) := yy_is (e := 15) (by decide) h
theorem yi_1316 {F n j : Nat} {v : Nat → Nat} {τ : zs_S} (h : yx_A F v n j τ) : zf_M_is F 1316 τ = some (if (yx_tk v n j).1 = 1023 then 1 else 0, τ) := yy_is (e := 16) (by decide) h
theorem yi_1317 {F n j : Nat} {v : Nat → Nat} {τ : zs_S} (h : yx_A F v n j τ) : zf_M_is F 1317 τ = some (if (yx_tk v n j).1 = 1019 then 1 else 0, τ) := yy_is (e := 17) (by decide) h
theorem yi_1318 {F n j : Nat} {v : Nat → Nat} {τ : zs_S} (h : yx_A F v n j τ) : zf_M_is F 1318 τ = some (if (yx_tk v n j).1 = 1020 then 1 else 0, τ) := yy_is (e := 18) (by decide) h
theorem yi_1319 {F n j : Nat} {v : Nat → Nat} {τ : zs_S} (h : yx_A F v n j τ) : zf_M_is F 1319 τ = some (if (yx_tk v n j).1 = 1021 then 1 else 0, τ) := yy_is (e := 19) (by decide) h
theorem yi_1320 {F n j : Nat} {v : Nat → Nat} {τ : zs_S} (h : yx_A F v n j τ) : zf_M_is F 1320 τ = some (if (yx_tk v n j).1 = 1022 then 1 else 0, τ) := yy_is (e := 20) (by decide) h
theorem yi_1321 {F n j : Nat} {v : Nat → Nat} {τ : zs_S} (h : yx_A F v n j τ) : zf_M_is F 1321 τ = some (if (yx_tk v n j).1 = 1026 then 1 else 0, τ) := yy_is (e := 21) (by decide) h
theorem yi_1322 {F n j : Nat} {v : Nat → Nat} {τ : zs_S} (h : yx_A F v n j τ) : zf_M_is F 1322 τ = some (if (yx_tk v n j).1 = 1027 then 1 else 0, τ) := yy_is (e := 22) (by decide) h
theorem yi_1323 {F n j : Nat} {v : Nat → Nat} {τ : zs_S} (h : yx_A F v n j τ) : zf_M_is F 1323 τ = some (if (yx_tk v n j).1 = 1028 then 1 else 0, τ) := yy_is (e := 23) (by decide) h
theorem yi_1324 {F n j : Nat} {v : Nat → Nat} {τ : zs_S} (h : yx_A F v n j τ) : zf_M_is F 1324 τ = some (if (yx_tk v n j).1 = 1029 then 1 else 0, τ) := yy_is (e := 24) (by decide) h
theorem yi_1325 {F n j : Nat} {v : Nat → Nat} {τ : zs_S} (h : yx_A F v n j τ) : zf_M_is F 1325 τ = some (if (yx_tk v n j).1 = 1030 then 1 else 0, τ) := yy_is (e := 25) (by decide) h
theorem yi_1326 {F n j : Nat} {v : Nat → Nat} {τ : zs_S} (h : yx_A F v n j τ) : zf_M_is F 1326 τ = some (if (yx_tk v n j).1 = 1031 then 1 else 0, τ) := yy_is (e := 26) (by decide) h
theorem yi_1327 {F n j : Nat} {v : Nat → Nat} {τ : zs_S} (h : yx_A F v n j τ) : zf_M_is F 1327 τ = some (if (yx_tk v n j).1 = 1032 then 1 else 0, τ) := yy_is (e := 27) (by decide) h
theorem yi_1328 {F n j : Nat} {v : Nat → Nat} {τ : zs_S} (h : yx_A F v n j τ) : zf_M_is F 1328 τ = some (if (yx_tk v n j).1 = 1033 then 1 else 0, τ) := yy_is (e := 28) (by decide) h
theorem yi_1329 {F n j : Nat} {v : Nat → Nat} {τ : zs_S} (h : yx_A F v n j τ) : zf_M_is F 1329 τ = some (if (yx_tk v n j).1 = 1034 then 1 else 0, τ) := yy_is (e := 29) (by decide) h
theorem yi_1330 {F n j : Nat} {v : Nat → Nat} {τ : zs_S} (h : yx_A F v n j τ) : zf_M_is F 1330 τ = some (if (yx_tk v n j).1 = 1036 then 1 else 0, τ) := yy_is (e := 30) (by decide) h
theorem yi_1331 {F n j : Nat} {v : Nat → Nat} {τ : zs_S} (h : yx_A F v n j τ) : zf_M_is F 1331 τ = some (if (yx_tk v n j).1 = 1025 then 1 else 0, τ) := yy_is (e := 31) (by decide) h
theorem yx_b1 {c : Prop} {dc : Decidable c} : ((if c then (1 : Int32) else 0) = 0) = ¬ c := by
  by_cases h : c
  · rw [if_pos h]
    exact propext ⟨fun q => absurd q (by decide), fun q => absurd h q⟩
  · rw [if_neg h]
    exact propext ⟨fun _ => h, fun _ => rfl⟩
theorem yy_name {F n j : Nat} {v : Nat → Nat} {τ : zs_S} (h : yx_A F v n j τ) : zf_M_isName F τ = some (if (yx_tk v n j).1 = 1002 then 1 else 0, τ) := by
  have hk : zs_i τ 1 7 = yx_kd (yx_tk v n j).1 := h.2.1.2.2.2.1
  have hb := yx_tkx (v := v) (n := n) (j := j) (fun x hx => (h.1.2 x hx).1)
  unfold zf_M_isName
  simp only [yi_1300 h, yi_1301 h, yi_1302 h, yi_1303 h, yi_1304 h, yi_1305 h, yi_1306 h, yi_1307 h, yi_1308 h, yi_1309 h, yi_1310 h, yi_1311 h, yi_1312 h, yi_1313 h, zq_cr, yx_b1]
  generalize (yx_tk v n j).1 = c at *
  unfold zf_M_isName_126 zf_M_isName_131
  rw [hk]
  by_cases h0 : c = 1005
  · subst h0; rfl
  by_cases h1 : c = 1006
  · subst h1; rfl
  by_cases h2 : c = 1007
  · subst h2; rfl
  by_cases h3 : c = 1008
  · subst h3; rfl
  by_cases h4 : c = 1009
  · subst h4; rfl
  by_cases h5 : c = 1010
  · subst h5; rfl
  by_cases h6 : c = 1011
  · subst h6; rfl
  by_cases h7 : c = 1012
  · subst h7; rfl
  by_cases h8 : c = 1013
  · subst h8; rfl
  by_cases h9 : c = 1014
  · subst h9; rfl
  by_cases h10 : c = 1015
  · subst h10; rfl
  by_cases h11 : c = 1016
  · subst h11; rfl
  by_cases h12 : c = 1017
  · subst h12; rfl
  by_cases h13 : c = 1018
  · subst h13; rfl
  simp only [h0, h1, h2, h3, h4, h5, h6, h7, h8, h9, h10, h11, h12, h13, not_false_eq_true, if_true]
  by_cases q : c = 1002
  · subst q; rfl
  · rw [if_neg q, if_neg]
    · rfl
    · unfold yx_kd
      intro r
      by_cases r1 : c = 1000
      · rw [if_pos r1] at r; exact absurd r (by decide)
      rw [if_neg r1] at r
      by_cases r2 : c = 1001
      · rw [if_pos r2] at r; exact absurd r (by decide)
      rw [if_neg r2] at r
      by_cases r3 : c = 1003
      · rw [if_pos r3] at r; exact absurd r (by decide)
      rw [if_neg r3] at r
      by_cases r4 : c < 1019
      · rw [if_pos r4] at r
        rcases hb with hb | ⟨-, -, -, -, hb⟩
        · omega
        · omega
      · rw [if_neg r4] at r; exact absurd r (by decide)
end ZXD
