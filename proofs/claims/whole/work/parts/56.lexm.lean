/-! the reference's lexer: step, is, isName -/
section ZXB
/-- the tape: bytes v, n of them -/
def yx_TP (v : Nat → Nat) (n : Nat) (τ : zs_S) : Prop := n ≤ 1600 ∧ ∀ j, j < n → v j < 256 ∧ zs_i τ 2 j = yby (v j)
theorem yx_sp_iff {c : Nat} : yx_sp c = true ↔ (c = 32 ∨ c = 10) := by
  unfold yx_sp
  rw [Bool.or_eq_true, decide_eq_true_eq, decide_eq_true_eq]
theorem yx_lt_iff {c : Nat} : yx_lt c = true ↔ (97 ≤ c ∧ c ≤ 122) := by
  unfold yx_lt
  rw [Bool.and_eq_true, decide_eq_true_eq, decide_eq_true_eq]
theorem yx_dg_iff {c : Nat} : yx_dg c = true ↔ (48 ≤ c ∧ c ≤ 57) := by
  unfold yx_dg
  rw [Bool.and_eq_true, decide_eq_true_eq, decide_eq_true_eq]
theorem yx_ld_iff {c : Nat} : yx_ld c = true ↔ (yx_lt c = true ∨ yx_dg c = true) := by
  unfold yx_ld
  rw [Bool.or_eq_true]
theorem yy_small {F v : Nat} {τ : zs_S} (h : v < 256) : zf_M_isSmall F (yby v) τ = some (if yx_lt v = true then 1 else 0, τ) := by
  unfold zf_M_isSmall
  by_cases h1 : yx_lt v = true
  · have := yx_lt_iff.mp h1
    rw [if_neg (fun q => by have := (yby_lt v h).mp q; omega), if_neg (fun q => by have := (yby_gt v h).mp q; omega), if_pos h1]
    rfl
  · rw [if_neg h1]
    have h2 : ¬ (97 ≤ v ∧ v ≤ 122) := fun q => h1 (yx_lt_iff.mpr q)
    by_cases h3 : v < 97 ∨ 128 ≤ v
    · rw [if_pos ((yby_lt v h).mpr h3)]
      rfl
    · rw [if_neg (fun q => h3 ((yby_lt v h).mp q)), if_pos ((yby_gt v h).mpr (by omega))]
      rfl
theorem yy_digit {F v : Nat} {τ : zs_S} (h : v < 256) : zf_M_isDigit F (yby v) τ = some (if yx_dg v = true then 1 else 0, τ) := by
  unfold zf_M_isDigit
  by_cases h1 : yx_dg v = true
  · have := yx_dg_iff.mp h1
    rw [if_neg (fun q => by have := (yby_dl v h).mp q; omega), if_neg (fun q => by have := (yby_dg v h).mp q; omega), if_pos h1]
    rfl
  · rw [if_neg h1]
    have h2 : ¬ (48 ≤ v ∧ v ≤ 57) := fun q => h1 (yx_dg_iff.mpr q)
    by_cases h3 : v < 48 ∨ 128 ≤ v
    · rw [if_pos ((yby_dl v h).mpr h3)]
      rfl
    · rw [if_neg (fun q => h3 ((yby_dl v h).mp q)), if_pos ((yby_dg v h).mpr (by omega))]
      rfl
theorem yy_sp {F n : Nat} {v : Nat → Nat} {τ : zs_S} (ht : yx_TP v n τ) (hs : zs_i τ 1 5 = nI n) : ∀ d i N, n - i ≤ d → i ≤ n → d < N → zf_M_step_0 F N (zs_wi τ 1 6 (nI i)) = zf_M_step_52 F (zs_wi τ 1 6 (nI (yx_E yx_sp v n i))) := by
  have hn := ht.1
  intro d
  induction d with
  | zero =>
    intro i N h1 h2 h3
    obtain ⟨N, rfl⟩ : ∃ q, N = q + 1 := ⟨N - 1, by omega⟩
    rw [yx_E0 (fun h => by omega), zf_M_step_0]
    simp only [yt_ii, yt_il, yt_ir, yt_ri, yt_rl, yt_rr, yt_li, yt_ll, yt_lr, Nat.reduceEqDiff, eq_self, and_true, true_and, and_false, false_and, and_self, reduceIte, hs]
    rw [if_pos (nI_le (by omega) (by omega))]
  | succ d ih =>
    intro i N h1 h2 h3
    obtain ⟨N, rfl⟩ : ∃ q, N = q + 1 := ⟨N - 1, by omega⟩
    by_cases hi : i < n
    · obtain ⟨hv, hc⟩ := ht.2 i hi
      rw [zf_M_step_0]
      simp only [yt_ii, yt_il, yt_ir, yt_ri, yt_rl, yt_rr, yt_li, yt_ll, yt_lr, Nat.reduceEqDiff, eq_self, and_true, true_and, and_false, false_and, and_self, reduceIte, hs, nI_clamp (show i < 2 ^ 31 by omega), yn_b (show i < 1600 by omega) (by decide), zq_gr, hc]
      rw [if_neg (nI_ge hi (by omega))]
      by_cases hp : yx_sp (v i) = true
      · have key : zf_M_step_39 F (zf_M_step_0 F N) (zs_wi τ 1 6 (nI i)) = zf_M_step_52 F (zs_wi τ 1 6 (nI (yx_E yx_sp v n i))) := by
          rw [yx_Es hi hp, ← ih (i + 1) N (by omega) (by omega) (by omega)]
          unfold zf_M_step_39
          simp only [zq_v, yt_ii, yt_il, yt_ir, yt_ri, yt_rl, yt_rr, yt_li, yt_ll, yt_lr, Nat.reduceEqDiff, eq_self, and_true, true_and, and_false, false_and, and_self, reduceIte, nI_1, yt_ww]
        by_cases h32 : v i = 32
        · rw [if_pos ((yby_32 _ hv).mpr h32)]
          exact key
        · rw [if_neg (fun q => h32 ((yby_32 _ hv).mp q)), if_pos ((yby_10 _ hv).mpr ((yx_sp_iff.mp hp).resolve_left h32))]
          exact key
      · rw [yx_E0 (fun h => hp h.2), if_neg (fun q => hp (yx_sp_iff.mpr (Or.inl ((yby_32 _ hv).mp q)))), if_neg (fun q => hp (yx_sp_iff.mpr (Or.inr ((yby_10 _ hv).mp q))))]
    · rw [yx_E0 (fun h => hi h.1), zf_M_step_0]
      simp only [yt_ii, yt_il, yt_ir, yt_ri, yt_rl, yt_rr, yt_li, yt_ll, yt_lr, Nat.reduceEqDiff, eq_self, and_true, true_and, and_false, false_and, and_self, reduceIte, hs]
      rw [if_pos (nI_le (by omega) (by omega))]
theorem yy_wd {F n : Nat} {v : Nat → Nat} {τ : zs_S} (ht : yx_TP v n τ) (hs : zs_i τ 1 5 = nI n) : ∀ d i N, n - i ≤ d → i ≤ n → d < N → zf_M_step_94 F N (zs_wi τ 1 6 (nI i)) = zf_M_step_148 F (zs_wi τ 1 6 (nI (yx_E yx_ld v n i))) := by
  have hn := ht.1
  intro d
  induction d with
  | zero =>
    intro i N h1 h2 h3
    obtain ⟨N, rfl⟩ : ∃ q, N = q + 1 := ⟨N - 1, by omega⟩
    rw [yx_E0 (fun h => by omega), zf_M_step_94]
    simp only [yt_ii, yt_il, yt_ir, yt_ri, yt_rl, yt_rr, yt_li, yt_ll, yt_lr, Nat.reduceEqDiff, eq_self, and_true, true_and, and_false, false_and, and_self, reduceIte, hs]
    rw [if_pos (nI_le (by omega) (by omega))]
  | succ d ih =>
    intro i N h1 h2 h3
    obtain ⟨N, rfl⟩ : ∃ q, N = q + 1 := ⟨N - 1, by omega⟩
    by_cases hi : i < n
    · obtain ⟨hv, hc⟩ := ht.2 i hi
      rw [zf_M_step_94]
      simp only [yt_ii, yt_il, yt_ir, yt_ri, yt_rl, yt_rr, yt_li, yt_ll, yt_lr, Nat.reduceEqDiff, eq_self, and_true, true_and, and_false, false_and, and_self, reduceIte, hs, nI_clamp (show i < 2 ^ 31 by omega), yn_b (show i < 1600 by omega) (by decide), zq_gr, hc, yy_small hv, yy_digit hv, zq_cr]
      rw [if_neg (nI_ge hi (by omega))]
      have key : yx_ld (v i) = true → zf_M_step_135 F (zf_M_step_94 F N) (zs_wi τ 1 6 (nI i)) = zf_M_step_148 F (zs_wi τ 1 6 (nI (yx_E yx_ld v n i))) := by
        intro hp
        rw [yx_Es hi hp, ← ih (i + 1) N (by omega) (by omega) (by omega)]
        unfold zf_M_step_135
        simp only [zq_v, yt_ii, yt_il, yt_ir, yt_ri, yt_rl, yt_rr, yt_li, yt_ll, yt_lr, Nat.reduceEqDiff, eq_self, and_true, true_and, and_false, false_and, and_self, reduceIte, nI_1, yt_ww]
      by_cases h1 : yx_lt (v i) = true
      · rw [if_pos h1, if_neg (by decide)]
        exact key (yx_ld_iff.mpr (Or.inl h1))
      · rw [if_neg h1, if_pos rfl]
        by_cases h2 : yx_dg (v i) = true
        · rw [if_pos h2, if_neg (by decide)]
          exact key (yx_ld_iff.mpr (Or.inr h2))
        · rw [if_neg h2, if_pos rfl, yx_E0 (fun h => (yx_ld_iff.mp h.2).elim h1 h2)]
    · rw [yx_E0 (fun h => hi h.1), zf_M_step_94]
      simp only [yt_ii, yt_il, yt_ir, yt_ri, yt_rl, yt_rr, yt_li, yt_ll, yt_lr, Nat.reduceEqDiff, eq_self, and_true, true_and, and_false, false_and, and_self, reduceIte, hs]
      rw [if_pos (nI_le (by omega) (by omega))]
/-- a number: the reference's value (1000: too large) beside the lexer's -/
def yx_nr (v : Nat → Nat) (j : Nat) : Nat → Nat
  | 0 => 0
  | m + 1 => min (yx_nr v j m * 10 + (v (j + m) - 48)) 1000
theorem yx_nr_nn {v : Nat → Nat} {j : Nat} : ∀ m, (yx_nr v j m ≤ 127 ∧ yx_nn v j m = yx_nr v j m) ∨ (128 ≤ yx_nr v j m ∧ yx_nn v j m = 128) := by
  intro m
  induction m with
  | zero => exact Or.inl ⟨Nat.zero_le _, rfl⟩
  | succ m ih =>
    unfold yx_nr yx_nn
    omega
theorem yx_nr_le {v : Nat → Nat} {j : Nat} (m : Nat) : yx_nr v j m ≤ 1000 := by
  cases m with
  | zero => exact Nat.zero_le _
  | succ m => unfold yx_nr; omega
theorem yy_ten {a c : Nat} (ha : a ≤ 1000) (hc : 48 ≤ c) (hc2 : c < 256) : ((10 : Int32) * nI a + nI c) - 48 = nI (a * 10 + (c - 48)) := by
  rw [show (10 : Int32) = nI 10 from rfl, show (48 : Int32) = nI 48 from rfl, pk_mul, nI_add, pk_sub (by omega)]
  congr 1
  omega
theorem yy_nm {F n : Nat} {v : Nat → Nat} {τ : zs_S} {j : Nat} (ht : yx_TP v n τ) (hs : zs_i τ 1 5 = nI n) : ∀ d m N, n - (j + m) ≤ d → j + m ≤ n → d < N → zf_M_step_194 F N (zs_wi (zs_wi τ 1 10 (nI (yx_nr v j m))) 1 6 (nI (j + m))) = zf_M_step_263 F (zs_wi (zs_wi τ 1 10 (nI (yx_nr v j (yx_E yx_dg v n (j + m) - j)))) 1 6 (nI (yx_E yx_dg v n (j + m)))) := by
  have hn := ht.1
  have fin : ∀ m N, j + m ≤ n → ¬ (j + m < n ∧ yx_dg (v (j + m)) = true) → zf_M_step_194 F (N + 1) (zs_wi (zs_wi τ 1 10 (nI (yx_nr v j m))) 1 6 (nI (j + m))) = zf_M_step_263 F (zs_wi (zs_wi τ 1 10 (nI (yx_nr v j (yx_E yx_dg v n (j + m) - j)))) 1 6 (nI (yx_E yx_dg v n (j + m)))) := by
    intro m N h2 h
    rw [yx_E0 h, zf_M_step_194, show j + m - j = m by omega]
    by_cases hi : j + m < n
    · obtain ⟨hv, hc⟩ := ht.2 _ hi
      simp only [yt_ii, yt_il, yt_ir, yt_ri, yt_rl, yt_rr, yt_li, yt_ll, yt_lr, Nat.reduceEqDiff, eq_self, and_true, true_and, and_false, false_and, and_self, reduceIte, hs, nI_clamp (show j + m < 2 ^ 31 by omega), yn_b (show j + m < 1600 by omega) (by decide), zq_gr, hc, yy_digit hv, zq_cr]
      rw [if_neg (nI_ge hi (by omega)), if_neg (fun q => h ⟨hi, q⟩), if_pos rfl]
    · simp only [yt_ii, yt_il, yt_ir, yt_ri, yt_rl, yt_rr, yt_li, yt_ll, yt_lr, Nat.reduceEqDiff, eq_self, and_true, true_and, and_false, false_and, and_self, reduceIte, hs]
      rw [if_pos (nI_le (by omega) (by omega))]
  intro d
  induction d with
  | zero =>
    intro m N h1 h2 h3
    obtain ⟨N, rfl⟩ : ∃ q, N = q + 1 := ⟨N - 1, by omega⟩
    exact fin m N h2 (fun h => by omega)
  | succ d ih =>
    intro m N h1 h2 h3
    obtain ⟨N, rfl⟩ : ∃ q, N = q + 1 := ⟨N - 1, by omega⟩
    by_cases hi : j + m < n ∧ yx_dg (v (j + m)) = true
    · obtain ⟨hv, hc⟩ := ht.2 _ hi.1
      have hd := yx_dg_iff.mp hi.2
      rw [zf_M_step_194]
      simp only [yt_ii, yt_il, yt_ir, yt_ri, yt_rl, yt_rr, yt_li, yt_ll, yt_lr, Nat.reduceEqDiff, eq_self, and_true, true_and, and_false, false_and, and_self, reduceIte, hs, nI_clamp (show j + m < 2 ^ 31 by omega), yn_b (show j + m < 1600 by omega) (by decide), zq_gr, hc, yy_digit hv, zq_cr]
      rw [if_neg (nI_ge hi.1 (by omega)), if_pos hi.2, if_neg (by decide), yx_Es hi.1 hi.2]
      have := ih (m + 1) N (by omega) (by omega) (by omega)
      rw [← Nat.add_assoc] at this
      rw [← this, yby_pos _ (by omega), yy_ten (yx_nr_le m) hd.1 hv]
      have e : (if nI (yx_nr v j m * 10 + (v (j + m) - 48)) < 1000 then nI (yx_nr v j m * 10 + (v (j + m) - 48)) else 1000) = nI (yx_nr v j (m + 1)) := by
        have hl := yx_nr_le (v := v) (j := j) m
        rw [show (1000 : Int32) = nI 1000 from rfl]
        simp (disch := omega) only [yn_lt]
        rw [yx_nr]
        by_cases hq : yx_nr v j m * 10 + (v (j + m) - 48) < 1000
        · rw [if_pos hq]
          congr 1
          omega
        · rw [if_neg hq]
          congr 1
          omega
      rw [e]
      simp only [zq_v, yt_ii, yt_il, yt_ir, yt_ri, yt_rl, yt_rr, yt_li, yt_ll, yt_lr, Nat.reduceEqDiff, eq_self, and_true, true_and, and_false, false_and, and_self, reduceIte, nI_1]
      rw [yt_wc _ (o := 1) (k := 6) (o' := 1) (k' := 10) _ _ (by decide), yt_ww, yt_ww]
    · exact fin m N h2 hi
end ZXB
