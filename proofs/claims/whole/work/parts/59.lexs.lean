/-! the class's lexer: Token.find, Tokens.split -/
section ZXE
theorem yl_pack {a c : Nat} (ha : a < 2 ^ 55) (hc : c < 256) : (lN a <<< (((8 : Int32)).toInt64 &&& 63)) ||| lN c = lN (a * 256 + c) := by
  have e1 : (lN a <<< (((8 : Int32)).toInt64 &&& 63)).toBitVec.toNat = a * 256 := by
    show ((lN a).toBitVec <<< ((((8 : Int32)).toInt64 &&& 63).toBitVec.smod 64).toNat).toNat = _
    rw [show ((((8 : Int32)).toInt64 &&& 63).toBitVec.smod 64).toNat = 8 by decide +kernel, BitVec.toNat_shiftLeft, Nat.shiftLeft_eq]
    show a % 2 ^ 64 * 2 ^ 8 % 2 ^ 64 = a * 256
    omega
  have e2 : (lN c).toBitVec.toNat = c := by
    show c % 2 ^ 64 = c
    omega
  apply Int64.toBitVec_inj.mp
  apply BitVec.eq_of_toNat_eq
  rw [Int64.toBitVec_or, BitVec.toNat_or, e1, e2]
  show a * 2 ^ 8 ||| c = (a * 256 + c) % 2 ^ 64
  rw [← Nat.shiftLeft_eq, ← Nat.shiftLeft_add_eq_or_of_lt (show c < 2 ^ 8 by omega), Nat.shiftLeft_eq]
  omega
theorem yl_pair {c d : Nat} (hc : c < 256) (hd : d < 256) : ((nI c <<< ((8 : Int32) &&& 31)) ||| nI d).toInt64 = lN (c * 256 + d) := by
  rw [pk_shlN ((8 : Int32) &&& 31) 8 (by decide +kernel) (by omega)]
  have e : nI (c * 2 ^ 8) ||| nI d = nI (c * 256 + d) := by
    apply Int32.toBitVec_inj.mp
    apply BitVec.eq_of_toNat_eq
    rw [Int32.toBitVec_or, BitVec.toNat_or, pk_tn (by omega), pk_tn (by omega), pk_tn (by omega), ← Nat.shiftLeft_eq, ← Nat.shiftLeft_add_eq_or_of_lt (show d < 2 ^ 8 by omega), Nat.shiftLeft_eq]
  rw [e, nI_l (by omega)]
theorem yx_tb : ∀ x, x < 37 → zd_tv 1 (1000 + x) = nI (yx_tab.getD x (0, 0)).1 ∧ zd_tw (1000 + x) = lN (yx_tab.getD x (0, 0)).2 ∧ (yx_tab.getD x (0, 0)).1 < 7 ∧ (yx_tab.getD x (0, 0)).2 < 2 ^ 62 ∧ zq_t (1000 + x) = true := by decide +kernel
theorem yx_dr : ∀ x, x < 37 → yx_tab.drop x = yx_tab.getD x (0, 0) :: yx_tab.drop (x + 1) := by decide +kernel
theorem yy_find2 {F K len : Nat} {σ : zs_S} (hK : K < 2 ^ 63) (hl : len < 2 ^ 31) : ∀ d x N, 37 - x ≤ d → x ≤ 37 → d < N → zf_Token_find_2 F N (lN K) (nI len) (nI x) σ = some (yx_fi K len (yx_tab.drop x) (1000 + x), σ) := by
  intro d
  induction d with
  | zero =>
    intro x N h1 h2 h3
    obtain ⟨N, rfl⟩ : ∃ q, N = q + 1 := ⟨N - 1, by omega⟩
    have hx : x = 37 := by omega
    subst hx
    rw [zf_Token_find_2, if_pos (by decide)]
    rfl
  | succ d ih =>
    intro x N h1 h2 h3
    obtain ⟨N, rfl⟩ : ∃ q, N = q + 1 := ⟨N - 1, by omega⟩
    by_cases hx : x < 37
    · obtain ⟨t1, t2, t3, t4, t5⟩ := yx_tb x hx
      rw [zf_Token_find_2, show (37 : Int32) = nI 37 from rfl, if_neg (nI_ge hx (by decide)), yn_b hx (by decide), zq_gr, nI_clamp (by omega), yx_dr x hx]
      simp only [zq_v, t5, zq_gr, t1, t2]
      simp (disch := omega) only [yn_eq]
      rw [yx_fi]
      have key : zf_Token_find_41 F (zf_Token_find_2 F N) (lN K) (nI len) (nI x) σ = some (yx_fi K len (yx_tab.drop (x + 1)) (1000 + x + 1), σ) := by
        unfold zf_Token_find_41
        simp only [zq_v, nI_1]
        exact ih (x + 1) N (by omega) (by omega) (by omega)
      by_cases q : (yx_tab.getD x (0, 0)).1 = len
      · rw [if_pos q]
        by_cases r : (yx_tab.getD x (0, 0)).2 = K
        · rw [if_pos ((lg_cmp_eq _ _).mpr (by rw [r])), if_pos ⟨q, r⟩]
        · rw [if_neg (fun h => r ((pk_lEQ (by omega) hK).mp ((lg_cmp_eq _ _).mp h))), if_neg (fun h => r h.2)]
          exact key
      · rw [if_neg q, if_neg (fun h => q h.1)]
        exact key
    · have hx : x = 37 := by omega
      subst hx
      rw [zf_Token_find_2, if_pos (by decide)]
      rfl
theorem yy_find {F K len : Nat} {σ : zs_S} (hK : K < 2 ^ 63) (hl : len < 2 ^ 31) (hF : 1600 < F) : zf_Token_find F (lN K) (nI len) σ = some (yx_find K len, σ) := yy_find2 hK hl 37 0 F (by omega) (by omega) (by omega)
theorem yy_let {F v : Nat} {τ : zs_S} (h : v < 256) : zf_Tokens_isLetter F (yby v) τ = some (if yx_lt v = true then 1 else 0, τ) := by
  unfold zf_Tokens_isLetter
  by_cases h1 : yx_lt v = true
  · have := yx_lt_iff.mp h1
    rw [if_neg (fun q => by have := (yby_lt v h).mp q; omega), if_neg (fun q => by have := (yby_gt v h).mp q; omega), if_pos h1]
    rfl
  · rw [if_neg h1]
    have h2 : ¬ (97 ≤ v ∧ v ≤ 122) := fun q => h1 (yx_lt_iff.mpr q)
    by_cases h3 : v < 97 ∨ 128 ≤ v
    · rw [if_pos ((yby_lt v h).mpr h3)]
      rfl
    · rw [if_neg (fun q => h3 ((yby_lt v h).mp q)), if_pos ((yby_gt v h).mpr (by omega))]
      rfl
theorem yy_dig {F v : Nat} {τ : zs_S} (h : v < 256) : zf_Tokens_isDigit F (yby v) τ = some (if yx_dg v = true then 1 else 0, τ) := by
  unfold zf_Tokens_isDigit
  by_cases h1 : yx_dg v = true
  · have := yx_dg_iff.mp h1
    rw [if_neg (fun q => by have := (yby_dl v h).mp q; omega), if_neg (fun q => by have := (yby_dg v h).mp q; omega), if_pos h1]
    rfl
  · rw [if_neg h1]
    have h2 : ¬ (48 ≤ v ∧ v ≤ 57) := fun q => h1 (yx_dg_iff.mpr q)
    by_cases h3 : v < 48 ∨ 128 ≤ v
    · rw [if_pos ((yby_dl v h).mpr h3)]
      rfl
    · rw [if_neg (fun q => h3 ((yby_dl v h).mp q)), if_pos ((yby_dg v h).mpr (by omega))]
      rfl
/-- the class's packing as it runs -/
def yx_ky (v : Nat → Nat) (j : Nat) : Nat → Int64
  | 0 => 0
  | m + 1 => (yx_ky v j m <<< (((8 : Int32)).toInt64 &&& 63)) ||| ((yby (v (j + m)) : Int32)).toInt64
theorem yx_ky_pn {v : Nat → Nat} {j : Nat} : ∀ m, m ≤ 8 → (∀ x, x < m → v (j + x) < 128) → yx_ky v j m = lN (yx_pn v j m) := by
  intro m
  induction m with
  | zero => intro _ _; rfl
  | succ m ih =>
    intro hm h
    have h1 := ih (by omega) (fun x hx => h x (by omega))
    have h2 := h m (by omega)
    have h3 : yx_pn v j m < 2 ^ 55 ∨ m = 0 := by
      by_cases q : m = 0
      · exact Or.inr q
      · left
        have h4 := (yx_pn_lt (v := v) (j := j) m (fun x hx => h x (by omega))).2 (by omega)
        have h5 : 256 ^ m ≤ 256 ^ 7 := Nat.pow_le_pow_right (by decide) (by omega)
        have h6 : (256 : Nat) ^ 7 = 2 ^ 56 := by decide
        omega
    have h4 : yx_pn v j m < 2 ^ 55 := by
      rcases h3 with h3 | h3
      · exact h3
      · subst h3
        exact Nat.two_pow_pos 55
    unfold yx_ky yx_pn
    rw [h1, yby_pos _ h2, nI_l (by omega), yl_pack h4 (by omega)]
theorem yy_rw {F n : Nat} {v : Nat → Nat} {σ : zs_S} {j : Nat} (ht : yx_TP v n σ) : ∀ d m N, n - (j + m) ≤ d → j + m ≤ n → d < N → zf_Tokens_readWord_8 F N 2 (nI n) (nI j) (yx_ky v j m) (zs_wi σ 3 4 (nI (j + m))) = zf_Tokens_readWord_68 F (nI j) (yx_ky v j (yx_E yx_ld v n (j + m) - j)) (zs_wi σ 3 4 (nI (yx_E yx_ld v n (j + m)))) := by
  have hn := ht.1
  have hk2 : zq_k 0 2 1 = true := by decide
  have hs2 : (zd_sh 0 2).2 = 1600 := by decide
  have fin : ∀ m N, j + m ≤ n → ¬ (j + m < n ∧ yx_ld (v (j + m)) = true) → zf_Tokens_readWord_8 F (N + 1) 2 (nI n) (nI j) (yx_ky v j m) (zs_wi σ 3 4 (nI (j + m))) = zf_Tokens_readWord_68 F (nI j) (yx_ky v j (yx_E yx_ld v n (j + m) - j)) (zs_wi σ 3 4 (nI (yx_E yx_ld v n (j + m)))) := by
    intro m N h2 h
    rw [yx_E0 h, zf_Tokens_readWord_8, show j + m - j = m by omega]
    by_cases hi : j + m < n
    · obtain ⟨hv, hc⟩ := ht.2 _ hi
      simp only [yt_ii, yt_il, yt_ir, yt_ri, yt_rl, yt_rr, yt_li, yt_ll, yt_lr, Nat.reduceEqDiff, eq_self, and_true, true_and, and_false, false_and, and_self, reduceIte, nI_clamp (show j + m < 2 ^ 31 by omega), hk2, hs2, yn_b (show j + m < 1600 by omega) (by decide), zq_gr, hc, yy_let hv, yy_dig hv, zq_cr, yx_b1]
      rw [if_neg (nI_ge hi (by omega)), if_pos (fun q => h ⟨hi, yx_ld_iff.mpr (Or.inl q)⟩), if_pos (fun q => h ⟨hi, yx_ld_iff.mpr (Or.inr q)⟩)]
    · simp only [yt_ii, yt_il, yt_ir, yt_ri, yt_rl, yt_rr, yt_li, yt_ll, yt_lr, Nat.reduceEqDiff, eq_self, and_true, true_and, and_false, false_and, and_self, reduceIte]
      rw [if_pos (nI_le (by omega) (by omega))]
  intro d
  induction d with
  | zero =>
    intro m N h1 h2 h3
    obtain ⟨N, rfl⟩ : ∃ q, N = q + 1 := ⟨N - 1, by omega⟩
    exact fin m N h2 (fun h => by omega)
  | succ d ih =>
    intro m N h1 h2 h3
    obtain ⟨N, rfl⟩ : ∃ q, N = q + 1 := ⟨N - 1, by omega⟩
    by_cases hi : j + m < n ∧ yx_ld (v (j + m)) = true
    · obtain ⟨hv, hc⟩ := ht.2 _ hi.1
      have := ih (m + 1) N (by omega) (by omega) (by omega)
      rw [← Nat.add_assoc] at this
      have key : zf_Tokens_readWord_40 F (zf_Tokens_readWord_8 F N) 2 (nI n) (nI j) (yx_ky v j m) (zs_wi σ 3 4 (nI (j + m))) = zf_Tokens_readWord_68 F (nI j) (yx_ky v j (yx_E yx_ld v n (j + m) - j)) (zs_wi σ 3 4 (nI (yx_E yx_ld v n (j + m)))) := by
        rw [yx_Es hi.1 hi.2, ← this]
        unfold zf_Tokens_readWord_40
        simp only [yt_ii, yt_il, yt_ir, yt_ri, yt_rl, yt_rr, yt_li, yt_ll, yt_lr, Nat.reduceEqDiff, eq_self, and_true, true_and, and_false, false_and, and_self, reduceIte, nI_clamp (show j + m < 2 ^ 31 by omega), hk2, hs2, yn_b (show j + m < 1600 by omega) (by decide), zq_gr, hc, zq_v, nI_1, yt_ww]
        rfl
      rw [zf_Tokens_readWord_8]
      simp only [yt_ii, yt_il, yt_ir, yt_ri, yt_rl, yt_rr, yt_li, yt_ll, yt_lr, Nat.reduceEqDiff, eq_self, and_true, true_and, and_false, false_and, and_self, reduceIte, nI_clamp (show j + m < 2 ^ 31 by omega), hk2, hs2, yn_b (show j + m < 1600 by omega) (by decide), zq_gr, hc, yy_let hv, yy_dig hv, zq_cr, yx_b1]
      rw [if_neg (nI_ge hi.1 (by omega))]
      by_cases q : yx_lt (v (j + m)) = true
      · rw [if_neg (fun r => r q)]
        exact key
      · rw [if_pos q, if_neg (fun r => r ((yx_ld_iff.mp hi.2).resolve_left q))]
        exact key
    · exact fin m N h2 hi
theorem yx_nn_le {v : Nat → Nat} {j : Nat} (m : Nat) : yx_nn v j m ≤ 128 := by
  cases m with
  | zero => exact Nat.zero_le _
  | succ m => unfold yx_nn; omega
theorem yy_rn {F n : Nat} {v : Nat → Nat} {σ : zs_S} {j : Nat} (ht : yx_TP v n σ) : ∀ d m N, n - (j + m) ≤ d → j + m ≤ n → d < N → zf_Tokens_readNumber_2 F N 2 (nI n) (nI (yx_nn v j m)) (zs_wi σ 3 4 (nI (j + m))) = zf_Tokens_readNumber_56 F (nI (yx_nn v j (yx_E yx_dg v n (j + m) - j))) (zs_wi σ 3 4 (nI (yx_E yx_dg v n (j + m)))) := by
  have hn := ht.1
  have hk2 : zq_k 0 2 1 = true := by decide
  have hs2 : (zd_sh 0 2).2 = 1600 := by decide
  have fin : ∀ m N, j + m ≤ n → ¬ (j + m < n ∧ yx_dg (v (j + m)) = true) → zf_Tokens_readNumber_2 F (N + 1) 2 (nI n) (nI (yx_nn v j m)) (zs_wi σ 3 4 (nI (j + m))) = zf_Tokens_readNumber_56 F (nI (yx_nn v j (yx_E yx_dg v n (j + m) - j))) (zs_wi σ 3 4 (nI (yx_E yx_dg v n (j + m)))) := by
    intro m N h2 h
    rw [yx_E0 h, zf_Tokens_readNumber_2, show j + m - j = m by omega]
    by_cases hi : j + m < n
    · obtain ⟨hv, hc⟩ := ht.2 _ hi
      simp only [yt_ii, yt_il, yt_ir, yt_ri, yt_rl, yt_rr, yt_li, yt_ll, yt_lr, Nat.reduceEqDiff, eq_self, and_true, true_and, and_false, false_and, and_self, reduceIte, nI_clamp (show j + m < 2 ^ 31 by omega), hk2, hs2, yn_b (show j + m < 1600 by omega) (by decide), zq_gr, hc, yy_dig hv, zq_cr, yx_b1]
      rw [if_neg (nI_ge hi (by omega)), if_pos (fun q => h ⟨hi, q⟩)]
    · simp only [yt_ii, yt_il, yt_ir, yt_ri, yt_rl, yt_rr, yt_li, yt_ll, yt_lr, Nat.reduceEqDiff, eq_self, and_true, true_and, and_false, false_and, and_self, reduceIte]
      rw [if_pos (nI_le (by omega) (by omega))]
  intro d
  induction d with
  | zero =>
    intro m N h1 h2 h3
    obtain ⟨N, rfl⟩ : ∃ q, N = q + 1 := ⟨N - 1, by omega⟩
    exact fin m N h2 (fun h => by omega)
  | succ d ih =>
    intro m N h1 h2 h3
    obtain ⟨N, rfl⟩ : ∃ q, N = q + 1 := ⟨N - 1, by omega⟩
    by_cases hi : j + m < n ∧ yx_dg (v (j + m)) = true
    · obtain ⟨hv, hc⟩ := ht.2 _ hi.1
      have hd := yx_dg_iff.mp hi.2
      have := ih (m + 1) N (by omega) (by omega) (by omega)
      rw [← Nat.add_assoc] at this
      rw [zf_Tokens_readNumber_2]
      simp only [yt_ii, yt_il, yt_ir, yt_ri, yt_rl, yt_rr, yt_li, yt_ll, yt_lr, Nat.reduceEqDiff, eq_self, and_true, true_and, and_false, false_and, and_self, reduceIte, nI_clamp (show j + m < 2 ^ 31 by omega), hk2, hs2, yn_b (show j + m < 1600 by omega) (by decide), zq_gr, hc, yy_dig hv, zq_cr, yx_b1]
      rw [if_neg (nI_ge hi.1 (by omega)), if_neg (fun r => r hi.2), yx_Es hi.1 hi.2, ← this, yby_pos _ (by omega)]
      have hl := yx_nn_le (v := v) (j := j) m
      have e : (if (128 : Int32) < ((nI (yx_nn v j m) * 10) + nI (v (j + m))) - 48 then 128 else ((nI (yx_nn v j m) * 10) + nI (v (j + m))) - 48) = nI (yx_nn v j (m + 1)) := by
        rw [show (10 : Int32) = nI 10 from rfl, show (48 : Int32) = nI 48 from rfl, show (128 : Int32) = nI 128 from rfl, pk_mul, nI_add, pk_sub (by omega)]
        simp (disch := omega) only [yn_lt]
        rw [yx_nn]
        by_cases hq : 128 < yx_nn v j m * 10 + v (j + m) - 48
        · rw [if_pos hq]
          congr 1
          omega
        · rw [if_neg hq]
          congr 1
          omega
      rw [e]
      simp only [zq_v, yt_ii, yt_il, yt_ir, yt_ri, yt_rl, yt_rr, yt_li, yt_ll, yt_lr, Nat.reduceEqDiff, eq_self, and_true, true_and, and_false, false_and, and_self, reduceIte, nI_1, yt_ww]
    · exact fin m N h2 hi
/-- what the parser needs of the token k that lies in the rows -/
def yx_row (v : Nat → Nat) (n j i : Nat) (σ : zs_S) : Prop := zs_r σ 4 i = (yx_tk v n j).1 ∧ zs_i σ 5 i = nI j ∧ (((yx_tk v n j).1 = 1002 ∨ (yx_tk v n j).1 = 1003) → zs_l σ 6 i = lN (yx_tk v n j).2.2)
/-- of the class's store only rows of tokens have changed -/
def yx_C (σ σ' : zs_S) : Prop := (∀ o k, ¬ (o = 3 ∧ 3 ≤ k) → o ≠ 5 → zs_i σ' o k = zs_i σ o k) ∧ (∀ o k, o ≠ 4 → zs_r σ' o k = zs_r σ o k) ∧ (∀ o k, o ≠ 6 → zs_l σ' o k = zs_l σ o k)
theorem yx_Cr (σ : zs_S) : yx_C σ σ := ⟨fun _ _ _ _ => rfl, fun _ _ _ => rfl, fun _ _ _ => rfl⟩
theorem yx_Ct {a b c : zs_S} (h : yx_C a b) (g : yx_C b c) : yx_C a c := ⟨fun o k q r => (g.1 o k q r).trans (h.1 o k q r), fun o k q => (g.2.1 o k q).trans (h.2.1 o k q), fun o k q => (g.2.2 o k q).trans (h.2.2 o k q)⟩
/-- rows ahead of the one that is laid stay -/
def yx_K (i : Nat) (σ σ' : zs_S) : Prop := ∀ x, x < i → zs_i σ' 5 x = zs_i σ 5 x ∧ zs_r σ' 4 x = zs_r σ 4 x ∧ zs_l σ' 6 x = zs_l σ 6 x
theorem yx_code {v : Nat → Nat} {n j : Nat} (hb : ∀ x, x < n → v x < 256) : zq_t (yx_tk v n j).1 = true := by
  unfold zq_t
  rcases yx_tkx (v := v) (n := n) (j := j) hb with h | ⟨-, -, -, -, h⟩
  · rw [decide_eq_true (by omega), decide_eq_true (by omega)]
    rfl
  · rw [decide_eq_true (by omega), decide_eq_true (by omega)]
    rfl
theorem yy_add {F n i j : Nat} {v : Nat → Nat} {σ : zs_S} (ht : yx_TP v n σ) (hs : zs_i σ 3 3 = nI i) (ha : zs_i σ 3 4 = nI j) (hi : i ≤ 1600) (hj : j ≤ n) (hF : 1600 < F) : yw (zf_Tokens_addToken F 2 (nI n) σ) (fun σ' => zs_i σ' 3 3 = nI (i + 1) ∧ zs_i σ' 3 4 = nI (yx_tk v n j).2.1 ∧ yx_row v n j i σ' ∧ yx_C σ σ' ∧ yx_K i σ σ') := by
  have hn := ht.1
  have hk2 : zq_k 0 2 1 = true := by decide
  have hs2 : (zd_sh 0 2).2 = 1600 := by decide
  have hcode := yx_code (v := v) (n := n) (j := j) (fun x hx => (ht.2 x hx).1)
  have hgi : zq_b (nI i) 1601 = true := yn_b (by omega) (by decide)
  have hci : (nI i).toNatClampNeg = i := nI_clamp (by omega)
  have hcj : (nI j).toNatClampNeg = j := nI_clamp (by omega)
  unfold zf_Tokens_addToken
  simp only [yt_ii, yt_il, yt_ir, yt_ri, yt_rl, yt_rr, yt_li, yt_ll, yt_lr, Nat.reduceEqDiff, eq_self, and_true, true_and, and_false, false_and, and_self, reduceIte, hs, ha, hgi, zq_gr, zq_v, hci, yn_lt (show j < 2 ^ 31 by omega) (show n < 2 ^ 31 by omega)]
  by_cases hjn : j < n
  · obtain ⟨hv, hc⟩ := ht.2 j hjn
    rw [if_pos hjn]
    simp only [hk2, hs2, zq_gr, hcj, yn_b (show j < 1600 by omega) (by decide), hc, yy_let hv, yy_dig hv, zq_cr, yx_b1, yt_ii, yt_il, yt_ir, yt_ri, yt_rl, yt_rr, yt_li, yt_ll, yt_lr, Nat.reduceEqDiff, eq_self, and_true, true_and, and_false, false_and, and_self, reduceIte, hs, ha, hgi]
    by_cases hl : yx_lt (v j) = true
    · rw [if_neg (fun r => r hl)]
      have hE := yx_E_n (P := yx_ld) (v := v) (show j ≤ n by omega)
      have hE1 : j < yx_E yx_ld v n j := by
        rw [yx_Es hjn (yx_ld_iff.mpr (Or.inl hl))]
        exact yx_E_le
      have hall : ∀ x, x < yx_E yx_ld v n j - j → v (j + x) < 128 := by
        intro x hx
        rcases yx_ld_iff.mp (yx_E_all (P := yx_ld) (v := v) (n := n) (i := j) (x := j + x) (by omega) (by omega)) with q | q
        · have := yx_lt_iff.mp q
          omega
        · have := yx_dg_iff.mp q
          omega
      have etk : yx_tk v n j = (if yx_E yx_ld v n j - j ≤ 8 then (if yx_find (yx_pn v j (yx_E yx_ld v n j - j)) (yx_E yx_ld v n j - j) = 1001 then 1002 else yx_find (yx_pn v j (yx_E yx_ld v n j - j)) (yx_E yx_ld v n j - j)) else 1001, yx_E yx_ld v n j, yx_pn v j (yx_E yx_ld v n j - j)) := by
        unfold yx_tk
        rw [if_neg (by omega), if_pos hl]
      unfold zf_Tokens_readWord
      simp only [zq_v, yt_ii, yt_il, yt_ir, yt_ri, yt_rl, yt_rr, yt_li, yt_ll, yt_lr, Nat.reduceEqDiff, eq_self, and_true, true_and, and_false, false_and, and_self, reduceIte, ha]
      have ht2 : yx_TP v n (zs_wi σ 5 i (nI j)) := ⟨ht.1, fun x hx => ht.2 x hx⟩
      have e1 := yy_rw (F := F) (j := j) ht2 n 0 F (by omega) (by omega) (by omega)
      rw [Nat.add_zero, yt_ws (σ := zs_wi σ 5 i (nI j)) (show zs_i (zs_wi σ 5 i (nI j)) 3 4 = nI j from ha)] at e1
      rw [show (0 : Int64) = yx_ky v j 0 from rfl, e1]
      unfold zf_Tokens_readWord_68
      unfold yx_row
      rw [etk] at hcode ⊢
      generalize yx_E yx_ld v n j = k at *
      simp only [yt_ii, yt_il, yt_ir, yt_ri, yt_rl, yt_rr, yt_li, yt_ll, yt_lr, Nat.reduceEqDiff, eq_self, and_true, true_and, and_false, false_and, and_self, reduceIte, hs, hgi, hci, zq_gr, zq_v, pk_sub (show j ≤ k by omega)]
      rw [show (8 : Int32) = nI 8 from rfl]
      simp (disch := omega) only [yn_le]
      by_cases h8 : k - j ≤ 8
      · rw [if_pos h8] at hcode
        rw [if_pos h8, if_pos h8]
        have hp : yx_pn v j (k - j) < 2 ^ 63 := by
          have h4 := (yx_pn_lt (v := v) (j := j) (k - j) hall).2 (by omega)
          have h5 : 256 ^ (k - j) ≤ 256 ^ 8 := Nat.pow_le_pow_right (by decide) h8
          have h6 : (256 : Nat) ^ 8 = 2 ^ 64 := by decide
          omega
        rw [yx_ky_pn (k - j) h8 hall, yy_find hp (by omega) hF, zq_cr]
        have hw := yx_wd hl (show 0 < k - j by omega) h8 hall
        generalize hcc : yx_find (yx_pn v j (k - j)) (k - j) = c at *
        rw [decide_eq_true (show c < 1200 by omega), zq_gr]
        have fin : ∀ c', zq_t c' = true → yw (zq_c (zf_Tokens_readWord_123 F c' (zs_wl (zs_wi (zs_wi σ 5 i (nI j)) 3 4 (nI k)) 6 i (lN (yx_pn v j (k - j))))) fun r25 σ24 => zq_g (zq_t r25) (zf_Tokens_addToken_111 F (zs_wr σ24 4 i r25))) (fun σ' => zs_i σ' 3 3 = nI (i + 1) ∧ zs_i σ' 3 4 = nI k ∧ (zs_r σ' 4 i = c' ∧ zs_i σ' 5 i = nI j ∧ ((c' = 1002 ∨ c' = 1003) → zs_l σ' 6 i = lN (yx_pn v j (k - j)))) ∧ yx_C σ σ' ∧ yx_K i σ σ') := by
          intro c' hc'
          unfold zf_Tokens_readWord_123
          rw [zq_cr, hc', zq_gr]
          unfold zf_Tokens_addToken_111
          simp only [zq_v, yt_ii, yt_il, yt_ir, yt_ri, yt_rl, yt_rr, yt_li, yt_ll, yt_lr, Nat.reduceEqDiff, eq_self, and_true, true_and, and_false, false_and, and_self, reduceIte, hs, nI_1]
          refine ⟨?_, ?_, ⟨?_, ?_, fun _ => ?_⟩, ⟨?_, ?_, ?_⟩, ?_⟩
          · rfl
          · rfl
          · simp only [yt_ii, yt_il, yt_ir, yt_ri, yt_rl, yt_rr, yt_li, yt_ll, yt_lr, Nat.reduceEqDiff, eq_self, and_true, true_and, and_false, false_and, and_self, reduceIte]
          · simp only [yt_ii, yt_il, yt_ir, yt_ri, yt_rl, yt_rr, yt_li, yt_ll, yt_lr, Nat.reduceEqDiff, eq_self, and_true, true_and, and_false, false_and, and_self, reduceIte]
          · simp only [yt_ii, yt_il, yt_ir, yt_ri, yt_rl, yt_rr, yt_li, yt_ll, yt_lr, Nat.reduceEqDiff, eq_self, and_true, true_and, and_false, false_and, and_self, reduceIte]
          · intro o x q r
            simp only [yt_ii, yt_il, yt_ir]
            rw [if_neg (fun e => q ⟨e.1, by omega⟩), if_neg (fun e => q ⟨e.1, by omega⟩), if_neg (fun e => r e.1)]
          · intro o x q
            simp only [yt_rr, yt_ri, yt_rl]
            rw [if_neg (fun e => q e.1)]
          · intro o x q
            simp only [yt_lr, yt_li, yt_ll]
            rw [if_neg (fun e => q e.1)]
          · intro x hx
            simp only [yt_ii, yt_il, yt_ir, yt_ri, yt_rl, yt_rr, yt_li, yt_ll, yt_lr, Nat.reduceEqDiff, eq_self, and_true, true_and, and_false, false_and, and_self, reduceIte, show ¬ x = i by omega]
        by_cases q : c = 1001
        · rw [if_pos q, if_pos q]
          exact fin 1002 (by decide)
        · rw [if_neg q] at hcode
          rw [if_neg q, if_neg q]
          exact fin c hcode
      · rw [if_neg h8, if_neg h8, zq_cr, show zq_t 1001 = true by decide, zq_gr]
        unfold zf_Tokens_addToken_111
        simp only [zq_v, yt_ii, yt_il, yt_ir, yt_ri, yt_rl, yt_rr, yt_li, yt_ll, yt_lr, Nat.reduceEqDiff, eq_self, and_true, true_and, and_false, false_and, and_self, reduceIte, hs, nI_1]
        refine ⟨rfl, rfl, ⟨?_, ?_, fun h => absurd h (by decide)⟩, ⟨?_, ?_, ?_⟩, ?_⟩
        · simp only [yt_ii, yt_il, yt_ir, yt_ri, yt_rl, yt_rr, yt_li, yt_ll, yt_lr, Nat.reduceEqDiff, eq_self, and_true, true_and, and_false, false_and, and_self, reduceIte]
        · simp only [yt_ii, yt_il, yt_ir, yt_ri, yt_rl, yt_rr, yt_li, yt_ll, yt_lr, Nat.reduceEqDiff, eq_self, and_true, true_and, and_false, false_and, and_self, reduceIte]
        · intro o x q r
          simp only [yt_ii, yt_il, yt_ir]
          rw [if_neg (fun e => q ⟨e.1, by omega⟩), if_neg (fun e => q ⟨e.1, by omega⟩), if_neg (fun e => r e.1)]
        · intro o x q
          simp only [yt_rr, yt_ri, yt_rl]
          rw [if_neg (fun e => q e.1)]
        · intro o x q
          rfl
        · intro x hx
          simp only [yt_ii, yt_il, yt_ir, yt_ri, yt_rl, yt_rr, yt_li, yt_ll, yt_lr, Nat.reduceEqDiff, eq_self, and_true, true_and, and_false, false_and, and_self, reduceIte, show ¬ x = i by omega]
    · rw [if_pos hl]
      by_cases hd : yx_dg (v j) = true
      · rw [if_neg (fun r => r hd)]
        have hE := yx_E_n (P := yx_dg) (v := v) (show j ≤ n by omega)
        have hE1 : j < yx_E yx_dg v n j := by
          rw [yx_Es hjn hd]
          exact yx_E_le
        have etk : yx_tk v n j = (if yx_nn v j (yx_E yx_dg v n j - j) ≤ 127 then 1003 else 1001, yx_E yx_dg v n j, yx_nn v j (yx_E yx_dg v n j - j)) := by
          unfold yx_tk
          rw [if_neg (by omega), if_neg hl, if_pos hd]
        unfold zf_Tokens_readNumber
        have ht2 : yx_TP v n (zs_wi σ 5 i (nI j)) := ⟨ht.1, fun x hx => ht.2 x hx⟩
        have e1 := yy_rn (F := F) (j := j) ht2 n 0 F (by omega) (by omega) (by omega)
        rw [Nat.add_zero, yt_ws (σ := zs_wi σ 5 i (nI j)) (show zs_i (zs_wi σ 5 i (nI j)) 3 4 = nI j from ha)] at e1
        rw [show (0 : Int32) = nI (yx_nn v j 0) from rfl, e1]
        unfold zf_Tokens_readNumber_56
        unfold yx_row
        rw [etk]
        generalize yx_E yx_dg v n j = k at *
        have hnn := yx_nn_le (v := v) (j := j) (k - j)
        simp only [yt_ii, yt_il, yt_ir, yt_ri, yt_rl, yt_rr, yt_li, yt_ll, yt_lr, Nat.reduceEqDiff, eq_self, and_true, true_and, and_false, false_and, and_self, reduceIte, hs, hgi, hci, zq_gr, zq_v, nI_l (show yx_nn v j (k - j) < 2 ^ 31 by omega)]
        rw [show (127 : Int32) = nI 127 from rfl]
        simp (disch := omega) only [yn_le]
        have fin : ∀ c', zq_t c' = true → yw (zq_c (zf_Tokens_readNumber_82 F c' (zs_wl (zs_wi (zs_wi σ 5 i (nI j)) 3 4 (nI k)) 6 i (lN (yx_nn v j (k - j))))) fun r25 σ24 => zq_g (zq_t r25) (zf_Tokens_addToken_111 F (zs_wr σ24 4 i r25))) (fun σ' => zs_i σ' 3 3 = nI (i + 1) ∧ zs_i σ' 3 4 = nI k ∧ (zs_r σ' 4 i = c' ∧ zs_i σ' 5 i = nI j ∧ ((c' = 1002 ∨ c' = 1003) → zs_l σ' 6 i = lN (yx_nn v j (k - j)))) ∧ yx_C σ σ' ∧ yx_K i σ σ') := by
          intro c' hc'
          unfold zf_Tokens_readNumber_82
          rw [zq_cr, hc', zq_gr]
          unfold zf_Tokens_addToken_111
          simp only [zq_v, yt_ii, yt_il, yt_ir, yt_ri, yt_rl, yt_rr, yt_li, yt_ll, yt_lr, Nat.reduceEqDiff, eq_self, and_true, true_and, and_false, false_and, and_self, reduceIte, hs, nI_1]
          refine ⟨rfl, rfl, ⟨?_, ?_, fun _ => ?_⟩, ⟨?_, ?_, ?_⟩, ?_⟩
          · simp only [yt_ii, yt_il, yt_ir, yt_ri, yt_rl, yt_rr, yt_li, yt_ll, yt_lr, Nat.reduceEqDiff, eq_self, and_true, true_and, and_false, false_and, and_self, reduceIte]
          · simp only [yt_ii, yt_il, yt_ir, yt_ri, yt_rl, yt_rr, yt_li, yt_ll, yt_lr, Nat.reduceEqDiff, eq_self, and_true, true_and, and_false, false_and, and_self, reduceIte]
          · simp only [yt_ii, yt_il, yt_ir, yt_ri, yt_rl, yt_rr, yt_li, yt_ll, yt_lr, Nat.reduceEqDiff, eq_self, and_true, true_and, and_false, false_and, and_self, reduceIte]
          · intro o x q r
            simp only [yt_ii, yt_il, yt_ir]
            rw [if_neg (fun e => q ⟨e.1, by omega⟩), if_neg (fun e => q ⟨e.1, by omega⟩), if_neg (fun e => r e.1)]
          · intro o x q
            simp only [yt_rr, yt_ri, yt_rl]
            rw [if_neg (fun e => q e.1)]
          · intro o x q
            simp only [yt_lr, yt_li, yt_ll]
            rw [if_neg (fun e => q e.1)]
          · intro x hx
            simp only [yt_ii, yt_il, yt_ir, yt_ri, yt_rl, yt_rr, yt_li, yt_ll, yt_lr, Nat.reduceEqDiff, eq_self, and_true, true_and, and_false, false_and, and_self, reduceIte, show ¬ x = i by omega]
        by_cases q : yx_nn v j (k - j) ≤ 127
        · rw [if_pos q, if_pos q]
          exact fin 1003 (by decide)
        · rw [if_neg q, if_neg q]
          exact fin 1001 (by decide)
      · rw [if_pos hd]
        have etk : yx_tk v n j = if yx_find (v j * 256 + (if j + 1 < n then v (j + 1) else 0)) 2 = 1001 then (yx_find (v j) 1, j + 1, 0) else (yx_find (v j * 256 + (if j + 1 < n then v (j + 1) else 0)) 2, j + 2, 0) := by
          unfold yx_tk
          rw [if_neg (by omega), if_neg hl, if_neg hd]
        unfold zf_Tokens_readSign
        simp only [yt_ii, yt_il, yt_ir, yt_ri, yt_rl, yt_rr, yt_li, yt_ll, yt_lr, Nat.reduceEqDiff, eq_self, and_true, true_and, and_false, false_and, and_self, reduceIte, ha, hci, hk2, hs2, zq_gr, hcj, yn_b (show j < 1600 by omega) (by decide), hc, yby_and _ hv, zq_v, nI_1, yn_le (show n < 2 ^ 31 by omega) (show j + 1 < 2 ^ 31 by omega)]
        have fin : ∀ d, d < 256 → d = (if j + 1 < n then v (j + 1) else 0) → yw (zq_c (zf_Tokens_readSign_37 F (nI (v j)) (nI d) (zs_wi σ 5 i (nI j))) fun r13 σ12 => zq_g (zq_t r13) (zf_Tokens_addToken_111 F (zs_wr σ12 4 i r13))) (fun σ' => zs_i σ' 3 3 = nI (i + 1) ∧ zs_i σ' 3 4 = nI (yx_tk v n j).2.1 ∧ yx_row v n j i σ' ∧ yx_C σ σ' ∧ yx_K i σ σ') := by
          intro d hd2 ed
          unfold zf_Tokens_readSign_37
          rw [yl_pair hv hd2, show (2 : Int32) = nI 2 from rfl, yy_find (by omega) (by omega) hF, zq_cr]
          have hlt : yx_find (v j * 256 + d) 2 < 1200 := by
            have := yx_f2d hv hd2 hl
            omega
          rw [decide_eq_true hlt, zq_gr]
          have hne : ∀ c' k', zq_t c' = true → (c' ≠ 1002 ∧ c' ≠ 1003) → yx_tk v n j = (c', k', 0) → yw (zq_c (zf_Tokens_readSign_94 F c' (zs_wi (zs_wi σ 5 i (nI j)) 3 4 (nI k'))) fun r13 σ12 => zq_g (zq_t r13) (zf_Tokens_addToken_111 F (zs_wr σ12 4 i r13))) (fun σ' => zs_i σ' 3 3 = nI (i + 1) ∧ zs_i σ' 3 4 = nI (yx_tk v n j).2.1 ∧ yx_row v n j i σ' ∧ yx_C σ σ' ∧ yx_K i σ σ') := by
            intro c' k' hc' hcn ek
            unfold zf_Tokens_readSign_94
            rw [zq_cr, hc', zq_gr]
            unfold zf_Tokens_addToken_111 yx_row
            rw [ek]
            simp only [zq_v, yt_ii, yt_il, yt_ir, yt_ri, yt_rl, yt_rr, yt_li, yt_ll, yt_lr, Nat.reduceEqDiff, eq_self, and_true, true_and, and_false, false_and, and_self, reduceIte, hs, nI_1]
            refine ⟨rfl, rfl, ⟨?_, ?_, fun h => ?_⟩, ⟨?_, ?_, ?_⟩, ?_⟩
            · simp only [yt_ii, yt_il, yt_ir, yt_ri, yt_rl, yt_rr, yt_li, yt_ll, yt_lr, Nat.reduceEqDiff, eq_self, and_true, true_and, and_false, false_and, and_self, reduceIte]
            · simp only [yt_ii, yt_il, yt_ir, yt_ri, yt_rl, yt_rr, yt_li, yt_ll, yt_lr, Nat.reduceEqDiff, eq_self, and_true, true_and, and_false, false_and, and_self, reduceIte]
            · exact absurd h (by omega)
            · intro o x q r
              simp only [yt_ii, yt_il, yt_ir]
              rw [if_neg (fun e => q ⟨e.1, by omega⟩), if_neg (fun e => q ⟨e.1, by omega⟩), if_neg (fun e => r e.1)]
            · intro o x q
              simp only [yt_rr, yt_ri, yt_rl]
              rw [if_neg (fun e => q e.1)]
            · intro o x q
              rfl
            · intro x hx
              simp only [yt_ii, yt_il, yt_ir, yt_ri, yt_rl, yt_rr, yt_li, yt_ll, yt_lr, Nat.reduceEqDiff, eq_self, and_true, true_and, and_false, false_and, and_self, reduceIte, show ¬ x = i by omega]
          rw [← ed] at etk
          by_cases q : yx_find (v j * 256 + d) 2 = 1001
          · rw [if_pos q]
            rw [if_pos q] at etk
            unfold zf_Tokens_readSign_71
            simp only [yt_ii, yt_il, yt_ir, yt_ri, yt_rl, yt_rr, yt_li, yt_ll, yt_lr, Nat.reduceEqDiff, eq_self, and_true, true_and, and_false, false_and, and_self, reduceIte, ha, nI_1, zq_v]
            rw [decide_eq_true hlt, zq_gr, if_pos q, nI_l (by omega), show (1 : Int32) = nI 1 from rfl, yy_find (by omega) (by omega) hF, zq_cr]
            have hf1 : zq_t (yx_find (v j) 1) = true ∧ (yx_find (v j) 1 ≠ 1002 ∧ yx_find (v j) 1 ≠ 1003) := by
              have := hcode
              rw [etk] at this
              refine ⟨this, ?_⟩
              have := yx_f1d (c := v j)
              omega
            exact hne _ (j + 1) hf1.1 hf1.2 etk
          · rw [if_neg q]
            rw [if_neg q] at etk
            unfold zf_Tokens_readSign_71
            simp only [yt_ii, yt_il, yt_ir, yt_ri, yt_rl, yt_rr, yt_li, yt_ll, yt_lr, Nat.reduceEqDiff, eq_self, and_true, true_and, and_false, false_and, and_self, reduceIte, ha, zq_v]
            rw [decide_eq_true hlt, zq_gr, if_neg q, nI_add j 2]
            have hf2 : zq_t (yx_find (v j * 256 + d) 2) = true ∧ (yx_find (v j * 256 + d) 2 ≠ 1002 ∧ yx_find (v j * 256 + d) 2 ≠ 1003) := by
              have := hcode
              rw [etk] at this
              refine ⟨this, ?_⟩
              have := yx_f2d hv hd2 hl
              omega
            exact hne _ (j + 2) hf2.1 hf2.2 etk
        by_cases hj1 : n ≤ j + 1
        · rw [if_pos hj1]
          exact fin 0 (by decide) (by rw [if_neg (by omega)])
        · obtain ⟨hv1, hc1⟩ := ht.2 (j + 1) (by omega)
          rw [if_neg hj1, yn_b (show j + 1 < 1600 by omega) (by decide), zq_gr, nI_clamp (show j + 1 < 2 ^ 31 by omega), hc1, yby_and _ hv1]
          exact fin (v (j + 1)) hv1 (by rw [if_pos (by omega)])
  · rw [if_neg hjn]
    have etk : yx_tk v n j = (1000, j, 0) := if_pos (by omega)
    unfold yx_row
    rw [etk]
    unfold zf_Tokens_addToken_111
    simp only [zq_v, yt_ii, yt_il, yt_ir, yt_ri, yt_rl, yt_rr, yt_li, yt_ll, yt_lr, Nat.reduceEqDiff, eq_self, and_true, true_and, and_false, false_and, and_self, reduceIte, hs, nI_1]
    refine ⟨rfl, ha, ⟨?_, ?_, fun h => absurd h (by decide)⟩, ⟨?_, ?_, ?_⟩, ?_⟩
    · simp only [yt_ii, yt_il, yt_ir, yt_ri, yt_rl, yt_rr, yt_li, yt_ll, yt_lr, Nat.reduceEqDiff, eq_self, and_true, true_and, and_false, false_and, and_self, reduceIte]
    · simp only [yt_ii, yt_il, yt_ir, yt_ri, yt_rl, yt_rr, yt_li, yt_ll, yt_lr, Nat.reduceEqDiff, eq_self, and_true, true_and, and_false, false_and, and_self, reduceIte]
    · intro o x q r
      simp only [yt_ii, yt_il, yt_ir]
      rw [if_neg (fun e => q ⟨e.1, by omega⟩), if_neg (fun e => r e.1)]
    · intro o x q
      simp only [yt_rr, yt_ri, yt_rl]
      rw [if_neg (fun e => q e.1)]
    · intro o x q
      rfl
    · intro x hx
      simp only [yt_ii, yt_il, yt_ir, yt_ri, yt_rl, yt_rr, yt_li, yt_ll, yt_lr, Nat.reduceEqDiff, eq_self, and_true, true_and, and_false, false_and, and_self, reduceIte, show ¬ x = i by omega]
end ZXE
