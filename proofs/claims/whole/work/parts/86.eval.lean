/-! explorer: expressions are reckoned alike -/
section YEV
variable {F n m p q t V L T : Nat} {v : Nat → Nat}
def yjn (g : Nat) (a b : Int32) : Int32 := if g = 1026 then (if a = 0 then (if b = 0 then 0 else 1) else 1) else if g = 1027 then (if a = 0 then 0 else if b = 0 then 0 else 1) else if g = 1028 then (if a = b then 1 else 0) else if g = 1029 then (if a = b then 0 else 1) else if g = 1030 then (if b ≤ a then 0 else 1) else if g = 1031 then (if b < a then 0 else 1) else if g = 1032 then (if a ≤ b then 0 else 1) else if g = 1033 then (if a < b then 0 else 1) else if g = 1034 then (a + b).toInt8.toInt32 else if g = 1035 then (a - b).toInt8.toInt32 else (a * b).toInt8.toInt32
theorem yy_bit0 (σ : zs_S) : zf_Code_bit F 0 σ = some (0, σ) := rfl
theorem yy_bit1 (σ : zs_S) : zf_Code_bit F 1 σ = some (1, σ) := rfl
theorem yy_join {g : Nat} {a b : Int32} {σ : zs_S} (h : 1026 ≤ g) (h2 : g ≤ 1036) : zf_Code_join F g a b σ = some (yjn g a b, σ) := by
  have hen := yord (g := g) (by omega) (by omega)
  have e0 : ∀ k, k < 37 → zd_mt.getD k 0 = zd_mt.getD k 0 := fun _ _ => rfl
  unfold zf_Code_join zf_Enum_ordinal0 zf_Code_join_72 zf_Code_join_77 zf_Code_join_93 zf_Code_join_94 zf_Code_join_108 zf_Code_join_122 zf_Code_join_136 zf_Code_join_150 zf_Code_join_164 zf_Code_join_178
  rw [yn_t (by omega) (by omega), yq_g, hen.1, yq_g, hen.2, yq_c, yn_b (show g - 1000 < 37 by omega) (by decide), yq_g, nI_clamp (by omega), yq_v]
  unfold yjn
  have hg : g = 1026 ∨ g = 1027 ∨ g = 1028 ∨ g = 1029 ∨ g = 1030 ∨ g = 1031 ∨ g = 1032 ∨ g = 1033 ∨ g = 1034 ∨ g = 1035 ∨ g = 1036 := by omega
  rcases hg with rfl | rfl | rfl | rfl | rfl | rfl | rfl | rfl | rfl | rfl | rfl
  · rw [show zd_mt.getD (1026 - 1000) 0 = 1 from by decide, if_pos (show (1 : Int32) = 1 from rfl), if_pos (show (1026 : Nat) = 1026 from rfl)]
    by_cases h1 : a = 0
    · by_cases h2 : b = 0
      · rw [if_pos h1, if_pos h2, if_pos h1, if_pos h2, yy_bit0, yq_c]
      · rw [if_pos h1, if_neg h2, if_pos h1, if_neg h2, yy_bit1, yq_c]
    · rw [if_neg h1, if_neg h1, yy_bit1, yq_c]
  · rw [show zd_mt.getD (1027 - 1000) 0 = 2 from by decide, if_neg (show ¬ (2 : Int32) = 1 by decide), if_pos (show (2 : Int32) = 2 from rfl), if_neg (show ¬ (1027 : Nat) = 1026 by decide), if_pos (show (1027 : Nat) = 1027 from rfl)]
    by_cases h1 : a = 0
    · rw [if_pos h1, if_pos h1, yy_bit0, yq_c]
    · by_cases h2 : b = 0
      · rw [if_neg h1, if_pos h2, if_neg h1, if_pos h2, yy_bit0, yq_c]
      · rw [if_neg h1, if_neg h2, if_neg h1, if_neg h2, yy_bit1, yq_c]
  · rw [show zd_mt.getD (1028 - 1000) 0 = 3 from by decide, if_neg (show ¬ (3 : Int32) = 1 by decide), if_neg (show ¬ (3 : Int32) = 2 by decide), if_pos (show (3 : Int32) = 3 from rfl), if_neg (show ¬ (1028 : Nat) = 1026 by decide), if_neg (show ¬ (1028 : Nat) = 1027 by decide), if_pos (show (1028 : Nat) = 1028 from rfl)]
    by_cases h1 : a = b
    · rw [if_pos h1, if_pos h1, yy_bit1, yq_c]
    · rw [if_neg h1, if_neg h1, yy_bit0, yq_c]
  · rw [show zd_mt.getD (1029 - 1000) 0 = 4 from by decide, if_neg (show ¬ (4 : Int32) = 1 by decide), if_neg (show ¬ (4 : Int32) = 2 by decide), if_neg (show ¬ (4 : Int32) = 3 by decide), if_pos (show (4 : Int32) = 4 from rfl), if_neg (show ¬ (1029 : Nat) = 1026 by decide), if_neg (show ¬ (1029 : Nat) = 1027 by decide), if_neg (show ¬ (1029 : Nat) = 1028 by decide), if_pos (show (1029 : Nat) = 1029 from rfl)]
    by_cases h1 : a = b
    · rw [if_pos h1, if_pos h1, yy_bit0, yq_c]
    · rw [if_neg h1, if_neg h1, yy_bit1, yq_c]
  · rw [show zd_mt.getD (1030 - 1000) 0 = 5 from by decide, if_neg (show ¬ (5 : Int32) = 1 by decide), if_neg (show ¬ (5 : Int32) = 2 by decide), if_neg (show ¬ (5 : Int32) = 3 by decide), if_neg (show ¬ (5 : Int32) = 4 by decide), if_pos (show (5 : Int32) = 5 from rfl), if_neg (show ¬ (1030 : Nat) = 1026 by decide), if_neg (show ¬ (1030 : Nat) = 1027 by decide), if_neg (show ¬ (1030 : Nat) = 1028 by decide), if_neg (show ¬ (1030 : Nat) = 1029 by decide), if_pos (show (1030 : Nat) = 1030 from rfl)]
    by_cases h1 : b ≤ a
    · rw [if_pos h1, if_pos h1, yy_bit0, yq_c]
    · rw [if_neg h1, if_neg h1, yy_bit1, yq_c]
  · rw [show zd_mt.getD (1031 - 1000) 0 = 6 from by decide, if_neg (show ¬ (6 : Int32) = 1 by decide), if_neg (show ¬ (6 : Int32) = 2 by decide), if_neg (show ¬ (6 : Int32) = 3 by decide), if_neg (show ¬ (6 : Int32) = 4 by decide), if_neg (show ¬ (6 : Int32) = 5 by decide), if_pos (show (6 : Int32) = 6 from rfl), if_neg (show ¬ (1031 : Nat) = 1026 by decide), if_neg (show ¬ (1031 : Nat) = 1027 by decide), if_neg (show ¬ (1031 : Nat) = 1028 by decide), if_neg (show ¬ (1031 : Nat) = 1029 by decide), if_neg (show ¬ (1031 : Nat) = 1030 by decide), if_pos (show (1031 : Nat) = 1031 from rfl)]
    by_cases h1 : b < a
    · rw [if_pos h1, if_pos h1, yy_bit0, yq_c]
    · rw [if_neg h1, if_neg h1, yy_bit1, yq_c]
  · rw [show zd_mt.getD (1032 - 1000) 0 = 7 from by decide, if_neg (show ¬ (7 : Int32) = 1 by decide), if_neg (show ¬ (7 : Int32) = 2 by decide), if_neg (show ¬ (7 : Int32) = 3 by decide), if_neg (show ¬ (7 : Int32) = 4 by decide), if_neg (show ¬ (7 : Int32) = 5 by decide), if_neg (show ¬ (7 : Int32) = 6 by decide), if_pos (show (7 : Int32) = 7 from rfl), if_neg (show ¬ (1032 : Nat) = 1026 by decide), if_neg (show ¬ (1032 : Nat) = 1027 by decide), if_neg (show ¬ (1032 : Nat) = 1028 by decide), if_neg (show ¬ (1032 : Nat) = 1029 by decide), if_neg (show ¬ (1032 : Nat) = 1030 by decide), if_neg (show ¬ (1032 : Nat) = 1031 by decide), if_pos (show (1032 : Nat) = 1032 from rfl)]
    by_cases h1 : a ≤ b
    · rw [if_pos h1, if_pos h1, yy_bit0, yq_c]
    · rw [if_neg h1, if_neg h1, yy_bit1, yq_c]
  · rw [show zd_mt.getD (1033 - 1000) 0 = 8 from by decide, if_neg (show ¬ (8 : Int32) = 1 by decide), if_neg (show ¬ (8 : Int32) = 2 by decide), if_neg (show ¬ (8 : Int32) = 3 by decide), if_neg (show ¬ (8 : Int32) = 4 by decide), if_neg (show ¬ (8 : Int32) = 5 by decide), if_neg (show ¬ (8 : Int32) = 6 by decide), if_neg (show ¬ (8 : Int32) = 7 by decide), if_pos (show (8 : Int32) = 8 from rfl), if_neg (show ¬ (1033 : Nat) = 1026 by decide), if_neg (show ¬ (1033 : Nat) = 1027 by decide), if_neg (show ¬ (1033 : Nat) = 1028 by decide), if_neg (show ¬ (1033 : Nat) = 1029 by decide), if_neg (show ¬ (1033 : Nat) = 1030 by decide), if_neg (show ¬ (1033 : Nat) = 1031 by decide), if_neg (show ¬ (1033 : Nat) = 1032 by decide), if_pos (show (1033 : Nat) = 1033 from rfl)]
    by_cases h1 : a < b
    · rw [if_pos h1, if_pos h1, yy_bit0, yq_c]
    · rw [if_neg h1, if_neg h1, yy_bit1, yq_c]
  · rw [show zd_mt.getD (1034 - 1000) 0 = 9 from by decide, if_neg (show ¬ (9 : Int32) = 1 by decide), if_neg (show ¬ (9 : Int32) = 2 by decide), if_neg (show ¬ (9 : Int32) = 3 by decide), if_neg (show ¬ (9 : Int32) = 4 by decide), if_neg (show ¬ (9 : Int32) = 5 by decide), if_neg (show ¬ (9 : Int32) = 6 by decide), if_neg (show ¬ (9 : Int32) = 7 by decide), if_neg (show ¬ (9 : Int32) = 8 by decide), if_pos (show (9 : Int32) = 9 from rfl), if_neg (show ¬ (1034 : Nat) = 1026 by decide), if_neg (show ¬ (1034 : Nat) = 1027 by decide), if_neg (show ¬ (1034 : Nat) = 1028 by decide), if_neg (show ¬ (1034 : Nat) = 1029 by decide), if_neg (show ¬ (1034 : Nat) = 1030 by decide), if_neg (show ¬ (1034 : Nat) = 1031 by decide), if_neg (show ¬ (1034 : Nat) = 1032 by decide), if_neg (show ¬ (1034 : Nat) = 1033 by decide), if_pos (show (1034 : Nat) = 1034 from rfl)]
  · rw [show zd_mt.getD (1035 - 1000) 0 = 10 from by decide, if_neg (show ¬ (10 : Int32) = 1 by decide), if_neg (show ¬ (10 : Int32) = 2 by decide), if_neg (show ¬ (10 : Int32) = 3 by decide), if_neg (show ¬ (10 : Int32) = 4 by decide), if_neg (show ¬ (10 : Int32) = 5 by decide), if_neg (show ¬ (10 : Int32) = 6 by decide), if_neg (show ¬ (10 : Int32) = 7 by decide), if_neg (show ¬ (10 : Int32) = 8 by decide), if_neg (show ¬ (10 : Int32) = 9 by decide), if_pos (show (10 : Int32) = 10 from rfl), if_neg (show ¬ (1035 : Nat) = 1026 by decide), if_neg (show ¬ (1035 : Nat) = 1027 by decide), if_neg (show ¬ (1035 : Nat) = 1028 by decide), if_neg (show ¬ (1035 : Nat) = 1029 by decide), if_neg (show ¬ (1035 : Nat) = 1030 by decide), if_neg (show ¬ (1035 : Nat) = 1031 by decide), if_neg (show ¬ (1035 : Nat) = 1032 by decide), if_neg (show ¬ (1035 : Nat) = 1033 by decide), if_neg (show ¬ (1035 : Nat) = 1034 by decide), if_pos (show (1035 : Nat) = 1035 from rfl)]
  · rw [show zd_mt.getD (1036 - 1000) 0 = 0 from by decide, if_neg (show ¬ (0 : Int32) = 1 by decide), if_neg (show ¬ (0 : Int32) = 2 by decide), if_neg (show ¬ (0 : Int32) = 3 by decide), if_neg (show ¬ (0 : Int32) = 4 by decide), if_neg (show ¬ (0 : Int32) = 5 by decide), if_neg (show ¬ (0 : Int32) = 6 by decide), if_neg (show ¬ (0 : Int32) = 7 by decide), if_neg (show ¬ (0 : Int32) = 8 by decide), if_neg (show ¬ (0 : Int32) = 9 by decide), if_neg (show ¬ (0 : Int32) = 10 by decide), if_neg (show ¬ (1036 : Nat) = 1026 by decide), if_neg (show ¬ (1036 : Nat) = 1027 by decide), if_neg (show ¬ (1036 : Nat) = 1028 by decide), if_neg (show ¬ (1036 : Nat) = 1029 by decide), if_neg (show ¬ (1036 : Nat) = 1030 by decide), if_neg (show ¬ (1036 : Nat) = 1031 by decide), if_neg (show ¬ (1036 : Nat) = 1032 by decide), if_neg (show ¬ (1036 : Nat) = 1033 by decide), if_neg (show ¬ (1036 : Nat) = 1034 by decide), if_neg (show ¬ (1036 : Nat) = 1035 by decide)]
theorem ym_tog {g : Nat} {a b : Int32} {τ : zs_S} (h : 1026 ≤ g) (h2 : g ≤ 1036) : zf_M_together F (yop g) a b τ = some (yjn g a b, τ) := by
  have t0 : ∀ τ, zf_M_together_194 F 0 τ = some (0, τ) := fun τ => rfl
  have t1 : ∀ τ, zf_M_together_194 F 1 τ = some (1, τ) := fun τ => rfl
  unfold zf_M_together zf_M_together_188 zf_M_together_193 zf_M_together_175 zf_M_together_176 zf_M_together_159 zf_M_together_145 zf_M_together_131 zf_M_together_117 zf_M_together_103 zf_M_together_89
  unfold yjn
  have hg : g = 1026 ∨ g = 1027 ∨ g = 1028 ∨ g = 1029 ∨ g = 1030 ∨ g = 1031 ∨ g = 1032 ∨ g = 1033 ∨ g = 1034 ∨ g = 1035 ∨ g = 1036 := by omega
  rcases hg with rfl | rfl | rfl | rfl | rfl | rfl | rfl | rfl | rfl | rfl | rfl
  · rw [yo_1026, if_neg (show ¬ (15 : Int32) = 3 by decide), if_neg (show ¬ (15 : Int32) = 4 by decide), if_neg (show ¬ (15 : Int32) = 5 by decide), if_neg (show ¬ (15 : Int32) = 6 by decide), if_neg (show ¬ (15 : Int32) = 7 by decide), if_neg (show ¬ (15 : Int32) = 8 by decide), if_neg (show ¬ (15 : Int32) = 9 by decide), if_neg (show ¬ (15 : Int32) = 10 by decide), if_neg (show ¬ (15 : Int32) = 11 by decide), if_neg (show ¬ (15 : Int32) = 12 by decide), if_neg (show ¬ (15 : Int32) = 13 by decide), if_neg (show ¬ (15 : Int32) = 14 by decide), if_pos (show (1026 : Nat) = 1026 from rfl)]
    by_cases h1 : a = 0
    · by_cases h2 : b = 0
      · rw [if_pos h1, if_pos h2, if_pos h1, if_pos h2, t0]
      · rw [if_pos h1, if_neg h2, if_pos h1, if_neg h2, t1]
    · rw [if_neg h1, if_neg h1, t1]
  · rw [yo_1027, if_neg (show ¬ (14 : Int32) = 3 by decide), if_neg (show ¬ (14 : Int32) = 4 by decide), if_neg (show ¬ (14 : Int32) = 5 by decide), if_neg (show ¬ (14 : Int32) = 6 by decide), if_neg (show ¬ (14 : Int32) = 7 by decide), if_neg (show ¬ (14 : Int32) = 8 by decide), if_neg (show ¬ (14 : Int32) = 9 by decide), if_neg (show ¬ (14 : Int32) = 10 by decide), if_neg (show ¬ (14 : Int32) = 11 by decide), if_neg (show ¬ (14 : Int32) = 12 by decide), if_neg (show ¬ (14 : Int32) = 13 by decide), if_pos (show (14 : Int32) = 14 from rfl), if_neg (show ¬ (1027 : Nat) = 1026 by decide), if_pos (show (1027 : Nat) = 1027 from rfl)]
    by_cases h1 : a = 0
    · rw [if_pos h1, if_pos h1, t0]
    · by_cases h2 : b = 0
      · rw [if_neg h1, if_pos h2, if_neg h1, if_pos h2, t0]
      · rw [if_neg h1, if_neg h2, if_neg h1, if_neg h2, t1]
  · rw [yo_1028, if_neg (show ¬ (8 : Int32) = 3 by decide), if_neg (show ¬ (8 : Int32) = 4 by decide), if_neg (show ¬ (8 : Int32) = 5 by decide), if_neg (show ¬ (8 : Int32) = 6 by decide), if_neg (show ¬ (8 : Int32) = 7 by decide), if_pos (show (8 : Int32) = 8 from rfl), if_neg (show ¬ (1028 : Nat) = 1026 by decide), if_neg (show ¬ (1028 : Nat) = 1027 by decide), if_pos (show (1028 : Nat) = 1028 from rfl)]
    by_cases h1 : a = b
    · rw [if_pos h1, if_pos h1, t1]
    · rw [if_neg h1, if_neg h1, t0]
  · rw [yo_1029, if_neg (show ¬ (9 : Int32) = 3 by decide), if_neg (show ¬ (9 : Int32) = 4 by decide), if_neg (show ¬ (9 : Int32) = 5 by decide), if_neg (show ¬ (9 : Int32) = 6 by decide), if_neg (show ¬ (9 : Int32) = 7 by decide), if_neg (show ¬ (9 : Int32) = 8 by decide), if_pos (show (9 : Int32) = 9 from rfl), if_neg (show ¬ (1029 : Nat) = 1026 by decide), if_neg (show ¬ (1029 : Nat) = 1027 by decide), if_neg (show ¬ (1029 : Nat) = 1028 by decide), if_pos (show (1029 : Nat) = 1029 from rfl)]
    by_cases h1 : a = b
    · rw [if_pos h1, if_pos h1, t0]
    · rw [if_neg h1, if_neg h1, t1]
  · rw [yo_1030, if_neg (show ¬ (10 : Int32) = 3 by decide), if_neg (show ¬ (10 : Int32) = 4 by decide), if_neg (show ¬ (10 : Int32) = 5 by decide), if_neg (show ¬ (10 : Int32) = 6 by decide), if_neg (show ¬ (10 : Int32) = 7 by decide), if_neg (show ¬ (10 : Int32) = 8 by decide), if_neg (show ¬ (10 : Int32) = 9 by decide), if_pos (show (10 : Int32) = 10 from rfl), if_neg (show ¬ (1030 : Nat) = 1026 by decide), if_neg (show ¬ (1030 : Nat) = 1027 by decide), if_neg (show ¬ (1030 : Nat) = 1028 by decide), if_neg (show ¬ (1030 : Nat) = 1029 by decide), if_pos (show (1030 : Nat) = 1030 from rfl)]
    by_cases h1 : b ≤ a
    · rw [if_pos h1, if_pos h1, t0]
    · rw [if_neg h1, if_neg h1, t1]
  · rw [yo_1031, if_neg (show ¬ (11 : Int32) = 3 by decide), if_neg (show ¬ (11 : Int32) = 4 by decide), if_neg (show ¬ (11 : Int32) = 5 by decide), if_neg (show ¬ (11 : Int32) = 6 by decide), if_neg (show ¬ (11 : Int32) = 7 by decide), if_neg (show ¬ (11 : Int32) = 8 by decide), if_neg (show ¬ (11 : Int32) = 9 by decide), if_neg (show ¬ (11 : Int32) = 10 by decide), if_pos (show (11 : Int32) = 11 from rfl), if_neg (show ¬ (1031 : Nat) = 1026 by decide), if_neg (show ¬ (1031 : Nat) = 1027 by decide), if_neg (show ¬ (1031 : Nat) = 1028 by decide), if_neg (show ¬ (1031 : Nat) = 1029 by decide), if_neg (show ¬ (1031 : Nat) = 1030 by decide), if_pos (show (1031 : Nat) = 1031 from rfl)]
    by_cases h1 : b < a
    · rw [if_pos h1, if_pos h1, t0]
    · rw [if_neg h1, if_neg h1, t1]
  · rw [yo_1032, if_neg (show ¬ (12 : Int32) = 3 by decide), if_neg (show ¬ (12 : Int32) = 4 by decide), if_neg (show ¬ (12 : Int32) = 5 by decide), if_neg (show ¬ (12 : Int32) = 6 by decide), if_neg (show ¬ (12 : Int32) = 7 by decide), if_neg (show ¬ (12 : Int32) = 8 by decide), if_neg (show ¬ (12 : Int32) = 9 by decide), if_neg (show ¬ (12 : Int32) = 10 by decide), if_neg (show ¬ (12 : Int32) = 11 by decide), if_pos (show (12 : Int32) = 12 from rfl), if_neg (show ¬ (1032 : Nat) = 1026 by decide), if_neg (show ¬ (1032 : Nat) = 1027 by decide), if_neg (show ¬ (1032 : Nat) = 1028 by decide), if_neg (show ¬ (1032 : Nat) = 1029 by decide), if_neg (show ¬ (1032 : Nat) = 1030 by decide), if_neg (show ¬ (1032 : Nat) = 1031 by decide), if_pos (show (1032 : Nat) = 1032 from rfl)]
    by_cases h1 : a ≤ b
    · rw [if_pos h1, if_pos h1, t0]
    · rw [if_neg h1, if_neg h1, t1]
  · rw [yo_1033, if_neg (show ¬ (13 : Int32) = 3 by decide), if_neg (show ¬ (13 : Int32) = 4 by decide), if_neg (show ¬ (13 : Int32) = 5 by decide), if_neg (show ¬ (13 : Int32) = 6 by decide), if_neg (show ¬ (13 : Int32) = 7 by decide), if_neg (show ¬ (13 : Int32) = 8 by decide), if_neg (show ¬ (13 : Int32) = 9 by decide), if_neg (show ¬ (13 : Int32) = 10 by decide), if_neg (show ¬ (13 : Int32) = 11 by decide), if_neg (show ¬ (13 : Int32) = 12 by decide), if_pos (show (13 : Int32) = 13 from rfl), if_neg (show ¬ (1033 : Nat) = 1026 by decide), if_neg (show ¬ (1033 : Nat) = 1027 by decide), if_neg (show ¬ (1033 : Nat) = 1028 by decide), if_neg (show ¬ (1033 : Nat) = 1029 by decide), if_neg (show ¬ (1033 : Nat) = 1030 by decide), if_neg (show ¬ (1033 : Nat) = 1031 by decide), if_neg (show ¬ (1033 : Nat) = 1032 by decide), if_pos (show (1033 : Nat) = 1033 from rfl)]
    by_cases h1 : a < b
    · rw [if_pos h1, if_pos h1, t0]
    · rw [if_neg h1, if_neg h1, t1]
  · rw [yo_1034, if_pos (show (3 : Int32) = 3 from rfl), if_neg (show ¬ (1034 : Nat) = 1026 by decide), if_neg (show ¬ (1034 : Nat) = 1027 by decide), if_neg (show ¬ (1034 : Nat) = 1028 by decide), if_neg (show ¬ (1034 : Nat) = 1029 by decide), if_neg (show ¬ (1034 : Nat) = 1030 by decide), if_neg (show ¬ (1034 : Nat) = 1031 by decide), if_neg (show ¬ (1034 : Nat) = 1032 by decide), if_neg (show ¬ (1034 : Nat) = 1033 by decide), if_pos (show (1034 : Nat) = 1034 from rfl)]
  · rw [yo_1035, if_neg (show ¬ (4 : Int32) = 3 by decide), if_pos (show (4 : Int32) = 4 from rfl), if_neg (show ¬ (1035 : Nat) = 1026 by decide), if_neg (show ¬ (1035 : Nat) = 1027 by decide), if_neg (show ¬ (1035 : Nat) = 1028 by decide), if_neg (show ¬ (1035 : Nat) = 1029 by decide), if_neg (show ¬ (1035 : Nat) = 1030 by decide), if_neg (show ¬ (1035 : Nat) = 1031 by decide), if_neg (show ¬ (1035 : Nat) = 1032 by decide), if_neg (show ¬ (1035 : Nat) = 1033 by decide), if_neg (show ¬ (1035 : Nat) = 1034 by decide), if_pos (show (1035 : Nat) = 1035 from rfl)]
  · rw [yo_1036, if_neg (show ¬ (5 : Int32) = 3 by decide), if_neg (show ¬ (5 : Int32) = 4 by decide), if_pos (show (5 : Int32) = 5 from rfl), if_neg (show ¬ (1036 : Nat) = 1026 by decide), if_neg (show ¬ (1036 : Nat) = 1027 by decide), if_neg (show ¬ (1036 : Nat) = 1028 by decide), if_neg (show ¬ (1036 : Nat) = 1029 by decide), if_neg (show ¬ (1036 : Nat) = 1030 by decide), if_neg (show ¬ (1036 : Nat) = 1031 by decide), if_neg (show ¬ (1036 : Nat) = 1032 by decide), if_neg (show ¬ (1036 : Nat) = 1033 by decide), if_neg (show ¬ (1036 : Nat) = 1034 by decide), if_neg (show ¬ (1036 : Nat) = 1035 by decide)]
/-- the stack: its top stands first -/
def yStk (f : Nat → Int32) : List Int32 → Prop
  | [] => True
  | a :: r => f r.length = a ∧ yStk f r
def ys1 (C : Nat → Int32) (st : List Int32) (g : Nat × Int32) : List Int32 := if g.1 = 1003 then g.2 :: st else if g.1 = 1002 then C g.2.toNatClampNeg :: st else if g.1 = 1025 then (match st with | [] => [] | a :: r => (if a = 0 then 1 else 0) :: r) else if g.1 = 1004 then (match st with | [] => [] | a :: r => (-a).toInt8.toInt32 :: r) else (match st with | b :: a :: r => yjn g.1 a b :: r | _ => [])
theorem yStk_F {f g : Nat → Int32} : ∀ {st : List Int32}, yStk f st → (∀ k, k < st.length → g k = f k) → yStk g st := by
  intro st
  induction st with
  | nil => intro _ _; trivial
  | cons a r ih =>
    intro h hk
    refine ⟨(hk _ (by rw [List.length_cons]; omega)).trans h.1, ih h.2 (fun k k1 => hk k (by rw [List.length_cons]; omega))⟩
theorem yb8_t (x : Int32) : yb8 x.toInt8.toInt32 := by
  unfold yb8
  rw [Int8.toInt8_toInt32]
theorem yb8_01 : yb8 0 ∧ yb8 1 := ⟨(yb8_n 0 (by decide)).1, (yb8_n 1 (by decide)).1⟩
theorem yjn_b (g : Nat) (a b : Int32) : yb8 (yjn g a b) := by
  unfold yjn
  repeat' split
  all_goals first | exact yb8_01.1 | exact yb8_01.2 | exact yb8_t _
theorem ys1_b {C : Nat → Int32} {st : List Int32} {g : Nat × Int32} (hC : ∀ k, k < 34 → yb8 (C k)) (hg : yEl t V T g) (hV : V ≤ 8 ∧ t < 4 ∧ T ≤ 3) (h : ∀ x, x ∈ st → yb8 x) : ∀ x, x ∈ ys1 C st g → yb8 x := by
  intro x hx
  unfold ys1 at hx
  by_cases h3 : g.1 = 1003
  · rw [if_pos h3] at hx
    rcases List.mem_cons.mp hx with hx | hx
    · rw [hx]
      rcases hg with ⟨-, k, k1, k2⟩ | ⟨h4, -⟩ | ⟨h4, -⟩ | h4
      · rw [k2]
        exact (yb8_n k k1).1
      · omega
      · omega
      · omega
    · exact h x hx
  · rw [if_neg h3] at hx
    by_cases h2 : g.1 = 1002
    · rw [if_pos h2] at hx
      rcases List.mem_cons.mp hx with hx | hx
      · rw [hx]
        rcases hg with ⟨h4, -⟩ | ⟨-, k, k1, k2⟩ | ⟨-, k, k1, k2⟩ | h4
        · omega
        · rw [k2, nI_clamp (by omega)]
          exact hC _ (by omega)
        · rw [k2, nI_clamp (by omega)]
          exact hC _ (by omega)
        · omega
      · exact h x hx
    · rw [if_neg h2] at hx
      by_cases h25 : g.1 = 1025
      · rw [if_pos h25] at hx
        cases st with
        | nil => exact absurd hx List.not_mem_nil
        | cons a r =>
          rcases List.mem_cons.mp hx with hx | hx
          · rw [hx]
            by_cases ha : a = 0
            · rw [if_pos ha]
              exact yb8_01.2
            · rw [if_neg ha]
              exact yb8_01.1
          · exact h x (List.mem_cons_of_mem _ hx)
      · rw [if_neg h25] at hx
        by_cases h04 : g.1 = 1004
        · rw [if_pos h04] at hx
          cases st with
          | nil => exact absurd hx List.not_mem_nil
          | cons a r =>
            rcases List.mem_cons.mp hx with hx | hx
            · rw [hx]
              exact yb8_t _
            · exact h x (List.mem_cons_of_mem _ hx)
        · rw [if_neg h04] at hx
          cases st with
          | nil => exact absurd hx List.not_mem_nil
          | cons b r =>
            cases r with
            | nil => exact absurd hx List.not_mem_nil
            | cons a r =>
              rcases List.mem_cons.mp hx with hx | hx
              · rw [hx]
                exact yjn_b _ _ _
              · exact h x (List.mem_cons_of_mem _ (List.mem_cons_of_mem _ hx))
theorem yev_b {C : Nat → Int32} (hC : ∀ k, k < 34 → yb8 (C k)) (hV : V ≤ 8 ∧ t < 4 ∧ T ≤ 3) : ∀ {l : List (Nat × Int32)} {st : List Int32}, (∀ g, g ∈ l → yEl t V T g) → (∀ x, x ∈ st → yb8 x) → ∀ x, x ∈ l.foldl (ys1 C) st → yb8 x := by
  intro l
  induction l with
  | nil => intro st _ h; exact h
  | cons g l ih =>
    intro st hg h
    exact ih (fun g' hg' => hg g' (List.mem_cons_of_mem _ hg')) (ys1_b hC (hg g List.mem_cons_self) hV h)
/-- an expression's value -/
def yval (C : Nat → Int32) (l : List (Nat × Int32)) : Int32 := (l.foldl (ys1 C) []).headD 0
end YEV
