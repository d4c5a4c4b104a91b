/-! the lexer, as a pure function of the tape's bytes v (below n) -/
section ZXA
def yx_sp (c : Nat) : Bool := decide (c = 32) || decide (c = 10)
def yx_lt (c : Nat) : Bool := decide (97 ≤ c) && decide (c ≤ 122)
def yx_dg (c : Nat) : Bool := decide (48 ≤ c) && decide (c ≤ 57)
def yx_ld (c : Nat) : Bool := yx_lt c || yx_dg c
/-- where the run of bytes that P takes ends -/
def yx_end (P : Nat → Bool) (v : Nat → Nat) (n : Nat) : Nat → Nat → Nat
  | 0, i => i
  | d + 1, i => if i < n ∧ P (v i) = true then yx_end P v n d (i + 1) else i
theorem yx_end_le {P : Nat → Bool} {v : Nat → Nat} {n : Nat} : ∀ d i, i ≤ yx_end P v n d i := by
  intro d
  induction d with
  | zero => intro i; exact Nat.le_refl i
  | succ d ih =>
    intro i
    unfold yx_end
    by_cases h : i < n ∧ P (v i) = true
    · rw [if_pos h]
      exact Nat.le_trans (Nat.le_succ i) (ih (i + 1))
    · rw [if_neg h]
      exact Nat.le_refl i
theorem yx_end_n {P : Nat → Bool} {v : Nat → Nat} {n : Nat} : ∀ d i, i ≤ n → yx_end P v n d i ≤ n := by
  intro d
  induction d with
  | zero => intro i h; exact h
  | succ d ih =>
    intro i hi
    unfold yx_end
    by_cases h : i < n ∧ P (v i) = true
    · rw [if_pos h]
      exact ih (i + 1) h.1
    · rw [if_neg h]
      exact hi
theorem yx_end_all {P : Nat → Bool} {v : Nat → Nat} {n : Nat} : ∀ d i x, i ≤ x → x < yx_end P v n d i → P (v x) = true := by
  intro d
  induction d with
  | zero => intro i x h1 h2; unfold yx_end at h2; omega
  | succ d ih =>
    intro i x h1 h2
    unfold yx_end at h2
    by_cases h : i < n ∧ P (v i) = true
    · rw [if_pos h] at h2
      by_cases e : x = i
      · subst e
        exact h.2
      · exact ih (i + 1) x (by omega) h2
    · rw [if_neg h] at h2
      omega
/-- more fuel changes nothing -/
theorem yx_end_d {P : Nat → Bool} {v : Nat → Nat} {n : Nat} : ∀ d e i, n - i ≤ d → n - i ≤ e → yx_end P v n d i = yx_end P v n e i := by
  intro d
  induction d with
  | zero =>
    intro e i h1 h2
    cases e with
    | zero => rfl
    | succ e =>
      unfold yx_end
      rw [if_neg (fun h => by omega)]
  | succ d ih =>
    intro e i h1 h2
    cases e with
    | zero =>
      unfold yx_end
      rw [if_neg (fun h => by omega)]
    | succ e =>
      unfold yx_end
      by_cases h : i < n ∧ P (v i) = true
      · rw [if_pos h, if_pos h]
        exact ih e (i + 1) (by omega) (by omega)
      · rw [if_neg h, if_neg h]
def yx_E (P : Nat → Bool) (v : Nat → Nat) (n i : Nat) : Nat := yx_end P v n (n - i) i
theorem yx_Es {P : Nat → Bool} {v : Nat → Nat} {n i : Nat} (h : i < n) (hp : P (v i) = true) : yx_E P v n i = yx_E P v n (i + 1) := by
  unfold yx_E
  rw [show n - i = (n - (i + 1)) + 1 by omega]
  rw [yx_end, if_pos ⟨h, hp⟩]
theorem yx_E0 {P : Nat → Bool} {v : Nat → Nat} {n i : Nat} (h : ¬ (i < n ∧ P (v i) = true)) : yx_E P v n i = i := by
  unfold yx_E
  cases n - i with
  | zero => rfl
  | succ d => rw [yx_end, if_neg h]
theorem yx_E_le {P : Nat → Bool} {v : Nat → Nat} {n i : Nat} : i ≤ yx_E P v n i := yx_end_le _ i
theorem yx_E_n {P : Nat → Bool} {v : Nat → Nat} {n i : Nat} (h : i ≤ n) : yx_E P v n i ≤ n := yx_end_n _ i h
theorem yx_E_all {P : Nat → Bool} {v : Nat → Nat} {n i x : Nat} (h : i ≤ x) (hx : x < yx_E P v n i) : P (v x) = true := yx_end_all _ i x h hx
/-- bytes packed, and a number's value (128: too large) -/
def yx_pn (v : Nat → Nat) (j : Nat) : Nat → Nat
  | 0 => 0
  | m + 1 => yx_pn v j m * 256 + v (j + m)
def yx_nn (v : Nat → Nat) (j : Nat) : Nat → Nat
  | 0 => 0
  | m + 1 => min (yx_nn v j m * 10 + (v (j + m) - 48)) 128
theorem yx_pn_lt {v : Nat → Nat} {j : Nat} : ∀ m, (∀ x, x < m → v (j + x) < 128) → yx_pn v j m < 256 ^ m ∧ (0 < m → 2 * yx_pn v j m < 256 ^ m) := by
  intro m
  induction m with
  | zero => intro _; exact ⟨Nat.one_pos, fun h => absurd h (by decide)⟩
  | succ m ih =>
    intro h
    have h1 := (ih (fun x hx => h x (by omega))).1
    have h2 := h m (by omega)
    have h3 : 2 * yx_pn v j (m + 1) < 256 ^ (m + 1) := by
      unfold yx_pn
      rw [Nat.pow_succ]
      by_cases hm : 0 < m
      · have := (ih (fun x hx => h x (by omega))).2 hm
        omega
      · have : m = 0 := by omega
        subst this
        unfold yx_pn
        simp only [Nat.pow_zero]
        omega
    exact ⟨by omega, fun _ => h3⟩
theorem yx_pn_inj {v w : Nat → Nat} {j i : Nat} : ∀ m, (∀ x, x < m → v (j + x) < 256) → (∀ x, x < m → w (i + x) < 256) → yx_pn v j m = yx_pn w i m → ∀ x, x < m → v (j + x) = w (i + x) := by
  intro m
  induction m with
  | zero => intro _ _ _ x hx; omega
  | succ m ih =>
    intro hv hw h x hx
    have h1 := hv m (by omega)
    have h2 := hw m (by omega)
    unfold yx_pn at h
    by_cases e : x = m
    · subst e
      omega
    · exact ih (fun x hx => hv x (by omega)) (fun x hx => hw x (by omega)) (by omega) x (by omega)
theorem yx_pn_eq {v w : Nat → Nat} {j i : Nat} : ∀ m, (∀ x, x < m → v (j + x) = w (i + x)) → yx_pn v j m = yx_pn w i m := by
  intro m
  induction m with
  | zero => intro _; rfl
  | succ m ih =>
    intro h
    unfold yx_pn
    rw [ih (fun x hx => h x (by omega)), h m (by omega)]
/-- length and packed bytes of all tokens -/
def yx_tab : List (Nat × Nat) := [(0, 0), (0, 0), (0, 0), (0, 0), (0, 0), (3, 7758194), (4, 1819239275), (6, 127991944667492), (5, 465725251948), (4, 1952541541), (4, 1734964837), (4, 2002872692), (4, 2002873189), (3, 6384748), (6, 107148485161588), (2, 26982), (4, 1701606245), (5, 512852847717), (4, 1937010544), (1, 123), (1, 125), (1, 40), (1, 41), (1, 59), (1, 61), (1, 33), (2, 31868), (2, 9766), (2, 15677), (2, 8509), (1, 60), (2, 15421), (1, 62), (2, 15933), (1, 43), (1, 45), (1, 42)]
def yx_fi (K len : Nat) : List (Nat × Nat) → Nat → Nat
  | [], _ => 1001
  | x :: l, i => if x.1 = len ∧ x.2 = K then i else yx_fi K len l (i + 1)
def yx_find (K len : Nat) : Nat := yx_fi K len yx_tab 1000
theorem yx_fi_r {K len : Nat} : ∀ (l : List (Nat × Nat)) (i : Nat), yx_fi K len l i = 1001 ∨ ∃ x, yx_fi K len l i = i + x ∧ l[x]? = some (len, K) := by
  intro l
  induction l with
  | nil => intro i; exact Or.inl rfl
  | cons a l ih =>
    intro i
    unfold yx_fi
    by_cases h : a.1 = len ∧ a.2 = K
    · rw [if_pos h]
      refine Or.inr ⟨0, rfl, ?_⟩
      obtain ⟨a1, a2⟩ := a
      obtain ⟨h1, h2⟩ := h
      subst h1
      subst h2
      rfl
    · rw [if_neg h]
      rcases ih (i + 1) with h | ⟨x, h1, h2⟩
      · exact Or.inl h
      · exact Or.inr ⟨x + 1, by omega, h2⟩
/-- strings of the reference (1300 + e): the token's code, length and packed bytes -/
def yx_sc : List Nat := [1005, 1006, 1007, 1008, 1009, 1010, 1011, 1012, 1013, 1014, 1015, 1016, 1017, 1018, 1024, 1035, 1023, 1019, 1020, 1021, 1022, 1026, 1027, 1028, 1029, 1030, 1031, 1032, 1033, 1034, 1036, 1025]
def yx_sv (e x : Nat) : Nat := (zd_sby (1400 + e) x).toNatClampNeg
theorem yx_s1 : ∀ e, e < 32 → yx_find (yx_pn (yx_sv e) 0 (zd_sln (1400 + e))) (zd_sln (1400 + e)) = yx_sc.getD e 0 := by decide +kernel
theorem yx_s2 : ∀ e, e < 32 → yx_tab[yx_sc.getD e 0 - 1000]? = some (zd_sln (1400 + e), yx_pn (yx_sv e) 0 (zd_sln (1400 + e))) ∧ 1005 ≤ yx_sc.getD e 0 ∧ zd_sln (1400 + e) ≤ 6 ∧ 0 < zd_sln (1400 + e) := by decide +kernel
theorem yx_s3 : ∀ e, e < 32 → ∀ x, x < zd_sln (1400 + e) → yx_sv e x < 128 ∧ zd_sby (1400 + e) x = nI (yx_sv e x) := by decide +kernel
theorem yx_fs {K len e : Nat} (he : e < 32) : yx_find K len = yx_sc.getD e 0 ↔ (len = zd_sln (1400 + e) ∧ K = yx_pn (yx_sv e) 0 (zd_sln (1400 + e))) := by
  constructor
  · intro h
    obtain ⟨h2, h3, -, -⟩ := yx_s2 e he
    rcases yx_fi_r (K := K) (len := len) yx_tab 1000 with h1 | ⟨x, h1, h4⟩
    · unfold yx_find at h
      omega
    · unfold yx_find at h
      rw [show yx_sc.getD e 0 - 1000 = x by omega, h4] at h2
      exact Prod.mk.inj (Option.some.inj h2)
  · intro h
    rw [h.2, h.1]
    exact yx_s1 e he
/-- the token at place j (no space stands there): its code, where it ends, what it holds -/
def yx_tk (v : Nat → Nat) (n j : Nat) : Nat × Nat × Nat :=
  if n ≤ j then (1000, j, 0)
  else if yx_lt (v j) = true then
    (if yx_E yx_ld v n j - j ≤ 8 then (if yx_find (yx_pn v j (yx_E yx_ld v n j - j)) (yx_E yx_ld v n j - j) = 1001 then 1002 else yx_find (yx_pn v j (yx_E yx_ld v n j - j)) (yx_E yx_ld v n j - j)) else 1001, yx_E yx_ld v n j, yx_pn v j (yx_E yx_ld v n j - j))
  else if yx_dg (v j) = true then
    (if yx_nn v j (yx_E yx_dg v n j - j) ≤ 127 then 1003 else 1001, yx_E yx_dg v n j, yx_nn v j (yx_E yx_dg v n j - j))
  else if yx_find (v j * 256 + (if j + 1 < n then v (j + 1) else 0)) 2 = 1001 then (yx_find (v j) 1, j + 1, 0)
  else (yx_find (v j * 256 + (if j + 1 < n then v (j + 1) else 0)) 2, j + 2, 0)
end ZXA
