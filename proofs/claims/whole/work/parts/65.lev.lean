/-! expressions: loops and levels -/
section YLA
variable {F n m p q t V L T : Nat} {v : Nat → Nat}
theorem yo_1026 : yop 1026 = 15 := by decide
theorem yo_1027 : yop 1027 = 14 := by decide
theorem yo_1028 : yop 1028 = 8 := by decide
theorem yo_1029 : yop 1029 = 9 := by decide
theorem yo_1030 : yop 1030 = 10 := by decide
theorem yo_1031 : yop 1031 = 11 := by decide
theorem yo_1032 : yop 1032 = 12 := by decide
theorem yo_1033 : yop 1033 = 13 := by decide
theorem yo_1034 : yop 1034 = 3 := by decide
theorem yo_1035 : yop 1035 = 4 := by decide
theorem yo_1036 : yop 1036 = 5 := by decide
theorem y10 : ((1 : Int32) = 0) = False := eq_false (by decide)
theorem yq_d {x : Option zs_S} : zq_d x (fun σ => some σ) = x := by
  cases x <;> rfl
def ylev (g : Nat) : Int32 := if g = 1026 then 0 else if g = 1027 then 1 else if 1028 ≤ g ∧ g ≤ 1033 then 2 else if g = 1034 ∨ g = 1035 then 3 else if g = 1036 then 4 else -1
theorem ylv {g : Nat} (h : 1000 ≤ g) (h2 : g < 1037) : zd_tv 2 g = ylev g := by
  have : ∀ x, x < 37 → zd_tv 2 (1000 + x) = ylev (1000 + x) := by decide +kernel
  have := this (g - 1000) (by omega)
  rw [show 1000 + (g - 1000) = g by omega] at this
  exact this
theorem ylev_op {g l : Nat} (hl : l < 5) (h : ylev g = nI l) : 1026 ≤ g ∧ g ≤ 1036 := by
  unfold ylev at h
  have : ∀ l, l < 5 → ¬ (-1 : Int32) = nI l := by decide
  have := this l hl
  repeat' split at h
  all_goals first | omega | exact absurd h this
def yXR (F : Nat) (v : Nat → Nat) (n m p q t V L T : Nat) (kL : zs_S → Option zs_S) (kR : zs_S → Option (Int32 × zs_S)) : Prop := ∀ i s a c e σ τ, yN F v n m p q t V L T i s a c e σ τ → yr (kL σ) (kR τ) (fun σ' r => yXP F v n m p q t V L T 0 i s a c e σ τ r.1 σ' r.2)
theorem yN_tok {i s a c e : Nat} {σ τ : zs_S} (h : yN F v n m p q t V L T i s a c e σ τ) : zs_r σ 7 6 = yx_c v n i ∧ 1000 ≤ yx_c v n i ∧ yx_c v n i < 1037 ∧ i ≤ m ∧ yx_A F v n (yx_ps v n i) τ ∧ (20 ≤ p ∧ p ≤ 79) ∧ (3 ≤ q ∧ q ≤ 30) := by
  have hg := yB_t h.1.1 i
  exact ⟨h.2.1.2.2.2.2.1, hg.1, hg.2.1, h.2.1.2.2.2.2.2.1, h.2.2.1.1, yPP_b h.1.2.1, yQQ_b h.1.2.2⟩
/-- a sign and its operand -/
theorem yx_it {i s a c e : Nat} {σ τ : zs_S} {kL : zs_S → Option zs_S} {kR : zs_S → Option (Int32 × zs_S)} (h : yN F v n m p q t V L T i s a c e σ τ) (hK : yXR F v n m p q t V L T kL kR) (hg : 1026 ≤ yx_c v n i ∧ yx_c v n i ≤ 1036) : ∃ σ1 τ1, zf_Parser_advance F σ = some σ1 ∧ zf_M_step F τ = some τ1 ∧ ∃ σ2 r τ2, kL σ1 = some σ2 ∧ kR τ1 = some (r, τ2) ∧ zs_r σ2 7 7 = p ∧ ((r = 1 ∧ ∃ σ3 τ3, zf_Code_add F (p + 55) (yx_c v n i) 0 σ2 = some σ3 ∧ zf_M_put F (yop (yx_c v n i)) τ2 = some τ3 ∧ ∃ i' a' c' e' l, (a < a' ∧ i < i') ∧ yXO F v n m p q t V L T 1 i s a c e σ τ i' a' c' e' l σ3 τ3) ∨ (r = 0 ∧ ∃ σ3, zf_Code_add F (p + 55) (yx_c v n i) 0 σ2 = some σ3 ∧ zs_r σ3 7 6 = 1001 ∧ yXF p q c e σ τ σ3 τ2)) := by
  obtain ⟨k1, k2, k3, k4, k5, hp2, hq2⟩ := yN_tok h
  have hi := yB_lt h.1.1 k4 (by omega) (by omega)
  obtain ⟨τ1, e1, e2, h1, f1, f2, u1⟩ := yN_st h hi
  obtain ⟨σ2, ⟨r, τ2⟩, e3, e4, hx⟩ := hK _ _ _ _ _ _ _ h1
  refine ⟨_, τ1, e1, e2, σ2, r, τ2, e3, e4, ?_⟩
  rcases hx with ⟨hr, i', a', c', e', l, ⟨⟨g1, g2⟩, g3, g4, ⟨g5, g6⟩, g7, g8, g9⟩⟩ | ⟨hr, ⟨g1, g2⟩, f, c', g3, g4, g5, g6, g7, g8⟩
  · have hr : r = 1 := hr
    subst hr
    have hci : c ≤ i := h.2.2.2.2.2.1.2
    obtain ⟨σ3, τ3, e5, e6, h3, j1, j2, j3, j4, j5, j6⟩ := yN_sg (g := yx_c v n i) g4 (by omega) (by omega) (by omega)
    refine ⟨g4.2.1.2.1, Or.inl ⟨rfl, σ3, τ3, e5, e6, i', a', c' + 1, e' + 1, l ++ [(yx_c v n i, 0)], by omega, ⟨yfC_t f1 (yfC_t g1 j1 (by omega)) (by omega), yfM_t (yfM_L f2) (yfM_t g2 j2 (by omega)) (by omega)⟩, by omega, h3, ⟨?_, ?_⟩, ?_, ?_, ?_⟩⟩
    · refine yCl_a (c2 := c') (l2 := [(yx_c v n i, 0)]) (d := c' + 1) ⟨j3, j4, rfl⟩ (yCl_F g5 (fun k k1 k2 => ⟨j1.2.1 _ _ (by omega) (by omega), j1.1 _ _ (by omega) (by omega) (by omega)⟩))
    · rw [List.flatMap_append]
      refine yRw_a (c2 := e') ?_ (yRw_F g6 (fun k k1 k2 => j2.1 _ _ (by omega) (by omega) (by omega)))
      have : [(yx_c v n i, (0 : Int32))].flatMap (ysp t) = [yop (yx_c v n i)] := by
        show ysp t (yx_c v n i, 0) ++ [] = _
        unfold ysp
        rw [if_neg (by show ¬ yx_c v n i = 1003; omega), if_neg (by show ¬ yx_c v n i = 1002; omega), List.append_nil]
      rw [this]
      exact ⟨j5, rfl⟩
    · intro x hx
      rcases List.mem_append.mp hx with hx | hx
      · exact g7 x hx
      · rw [List.mem_singleton] at hx
        subst hx
        exact Or.inr (Or.inr (Or.inr (Or.inr ⟨hg.1, hg.2⟩)))
    · intro hh hb
      refine yok_a (k := hh + 1 + 1) ?_ (g8 (hh + 1) (by omega))
      rw [yok, if_neg (by show ¬ (yx_c v n i = 1003 ∨ yx_c v n i = 1002); omega), if_neg (by show ¬ (yx_c v n i = 1025 ∨ yx_c v n i = 1004); omega)]
      exact ⟨by omega, by show hh + 1 + 1 - 1 = hh + 1; omega⟩
    · rw [j6, g9, List.foldl_append, u1]
      show _ = yu1 _ (yx_c v n i, 0)
      unfold yu1
      rw [if_neg (by show ¬ (yx_c v n i = 1002 ∧ _); omega)]
  · have hr : r = 0 := hr
    subst hr
    obtain ⟨σ3, c3, e5, j1, j2, j3, j4, j5, j6⟩ := yy_addk (F := F) (g := yx_c v n i) (x := 0) h.1.2.1 g6 g8 (by omega) (by omega)
    refine ⟨g3.2.1, Or.inr ⟨rfl, σ3, e5, (j6 6).trans g3.2.2.2.2, ⟨yfC_t f1 (yfC_t g1 j4 (by omega)) (by omega), yfM_t (yfM_L f2) g2 (by omega)⟩, f, c3, yK_F g3 j5 j6, g4, g5, j3, by omega, j2⟩⟩
theorem yx_kloop {N l : Nat} {σ : zs_S} {x2 x3 x4 : Int32} {kA : Int32 → zs_S → Option zs_S} {kL : Int32 → Int32 → zs_S → Option zs_S} (h : zs_r σ 7 6 = 1001) (hN : 0 < N) (hl : l < 5) : zf_Parser_readLevel_b_35 kA kL F N (nI l) x2 x3 x4 σ = some σ := by
  obtain ⟨N, rfl⟩ : ∃ q, N = q + 1 := ⟨N - 1, by omega⟩
  rw [zf_Parser_readLevel_b_35]
  by_cases q : x3 ≤ x4
  · rw [if_pos q]
    rfl
  · have : ∀ l, l < 5 → ¬ zd_tv 2 1001 = nI l := by decide +kernel
    rw [if_neg q, h, zq_qr (by decide), yn_t (by decide) (by decide), zq_gr, if_neg (this l hl)]
    rfl
theorem yx_loop {l : Nat} {x2 : Int32} {kA : Int32 → zs_S → Option zs_S} {kL : Int32 → Int32 → zs_S → Option zs_S} {kR : zs_S → Option (Int32 × zs_S)} {R : Nat → zs_S → Option (Int32 × zs_S)} (hl : l < 5) (hK : yXR F v n m p q t V L T (kL (nI l + 1) x2) kR)
    (hR1 : ∀ N i τ, yM F v n m q i τ → ylev (yx_c v n i) ≠ nI l → R (N + 1) τ = some (1, τ))
    (hR2 : ∀ N i τ, yM F v n m q i τ → ylev (yx_c v n i) = nI l → R (N + 1) τ = zq_d (zf_M_step F τ) fun τ1 => zq_c (kR τ1) fun r τ2 => if r = 0 then some (0, τ2) else zq_d (zf_M_put F (yop (yx_c v n i)) τ2) fun τ3 => R N τ3) :
    ∀ d N M j i s a c e σ τ, m - i ≤ d → d < N → d < M → j < a → yN F v n m p q t V L T i s a c e σ τ → yr (zf_Parser_readLevel_b_35 kA kL F N (nI l) x2 150 (nI j) σ) (R M τ) (fun σ' r => yXP F v n m p q t V L T 1 i s a c e σ τ r.1 σ' r.2) := by
  have stop : ∀ N M j i s a c e σ τ, 0 < N → 0 < M → j < a → yN F v n m p q t V L T i s a c e σ τ → ylev (yx_c v n i) ≠ nI l → yr (zf_Parser_readLevel_b_35 kA kL F N (nI l) x2 150 (nI j) σ) (R M τ) (fun σ' r => yXP F v n m p q t V L T 1 i s a c e σ τ r.1 σ' r.2) := by
    intro N M j i s a c e σ τ hN hM hj h hlv
    obtain ⟨k1, k2, k3, k4, k5, hp2, hq2⟩ := yN_tok h
    have ha := h.2.2.2.2.1.2.2
    obtain ⟨N, rfl⟩ : ∃ q, N = q + 1 := ⟨N - 1, by omega⟩
    obtain ⟨M, rfl⟩ : ∃ q, M = q + 1 := ⟨M - 1, by omega⟩
    refine yr_i (a := σ) (b := (1, τ)) ?_ (hR1 M i τ h.2.2.1 hlv) (Or.inl ⟨rfl, i, a, c, e, [], yXO_r h⟩)
    rw [zf_Parser_readLevel_b_35, show (150 : Int32) = nI 150 from rfl, if_neg (nI_ge (by omega) (by omega)), k1, zq_qr (by omega), yn_t k2 k3, zq_gr, ylv k2 k3, if_neg hlv]
    rfl
  intro d
  induction d with
  | zero =>
    intro N M j i s a c e σ τ h1 h2 h3 h4 h
    obtain ⟨k1, k2, k3, k4, k5, hp2, hq2⟩ := yN_tok h
    refine stop N M j i s a c e σ τ h2 h3 h4 h (fun hlv => ?_)
    have := ylev_op hl hlv
    have := yB_lt h.1.1 k4 (by omega) (by omega)
    omega
  | succ d ih =>
    intro N M j i s a c e σ τ h1 h2 h3 h4 h
    by_cases hlv : ylev (yx_c v n i) = nI l
    · obtain ⟨k1, k2, k3, k4, k5, hp2, hq2⟩ := yN_tok h
      have ha := h.2.2.2.2.1.2.2
      obtain ⟨N, rfl⟩ : ∃ q, N = q + 1 := ⟨N - 1, by omega⟩
      obtain ⟨M, rfl⟩ : ∃ q, M = q + 1 := ⟨M - 1, by omega⟩
      obtain ⟨σ1, τ1, e1, e2, σ2, r, τ2, e3, e4, pr, hx⟩ := yx_it h hK (ylev_op hl hlv)
      rw [hR2 M i τ h.2.2.1 hlv, zf_Parser_readLevel_b_35, show (150 : Int32) = nI 150 from rfl, if_neg (nI_ge (by omega) (by omega)), k1, zq_qr (by omega), yn_t k2 k3, zq_gr, ylv k2 k3, if_pos hlv, zq_qr (by omega), e1, e2, zq_dr, zq_dr, e3, e4, zq_dr, zq_cr]
      rcases hx with ⟨hr, σ3, τ3, e5, e6, i', a', c', e', l', g0, g⟩ | ⟨hr, σ3, e5, g1, g2⟩
      · subst hr
        rw [if_neg (by decide), e6, pr, zq_qr (by omega), yp_k h.1.2.1, zq_gr, yp_r8 h.1.2.1, zq_qr (by omega), yp_k55 h.1.2.1, zq_gr, e5, zq_dr, zq_dr, nI_1]
        have hii := g.2.1
        refine yr_m (ih N M (j + 1) i' s a' c' e' σ3 τ3 (by omega) (by omega) (by omega) (by omega) g.2.2.1) (fun σ' r hx => ?_)
        rcases hx with ⟨hr, i2, a2, c2, e2, l2, g2⟩ | ⟨hr, g2⟩
        · exact Or.inl ⟨hr, i2, a2, c2, e2, l' ++ l2, yXO_t g g2⟩
        · exact Or.inr ⟨hr, yXF_t g g2⟩
      · subst hr
        rw [if_pos rfl, pr, zq_qr (by omega), yp_k h.1.2.1, zq_gr, yp_r8 h.1.2.1, zq_qr (by omega), yp_k55 h.1.2.1, zq_gr, e5, zq_dr]
        exact yr_i (yx_kloop g1 (by omega) hl) rfl (Or.inr ⟨rfl, g2⟩)
    · exact stop N M j i s a c e σ τ (by omega) (by omega) h4 h hlv
/-- one level of signs over the next -/
theorem yx_lev {l N : Nat} {x2 : Int32} {kA : Int32 → zs_S → Option zs_S} {kR Rf : zs_S → Option (Int32 × zs_S)} {R : Nat → zs_S → Option (Int32 × zs_S)} (hl : l < 5) (hl2 : l ≠ 2) (hF : 1700 < F) (hK : yXR F v n m p q t V L T (zf_Parser_readLevel kA F N (nI l + 1) x2) kR)
    (hR1 : ∀ N i τ, yM F v n m q i τ → ylev (yx_c v n i) ≠ nI l → R (N + 1) τ = some (1, τ))
    (hR2 : ∀ N i τ, yM F v n m q i τ → ylev (yx_c v n i) = nI l → R (N + 1) τ = zq_d (zf_M_step F τ) fun τ1 => zq_c (kR τ1) fun r τ2 => if r = 0 then some (0, τ2) else zq_d (zf_M_put F (yop (yx_c v n i)) τ2) fun τ3 => R N τ3)
    (hRf : ∀ τ, Rf τ = zq_c (kR τ) fun r τ1 => if r = 0 then some (0, τ1) else R F τ1) : yXR F v n m p q t V L T (zf_Parser_readLevel kA F (N + 1) (nI l) x2) Rf := by
  intro i s a c e σ τ h
  obtain ⟨σ1, ⟨r, τ1⟩, e1, e2, hx⟩ := hK _ _ _ _ _ _ _ h
  have hm := yB_m h.1.1
  have ec : zf_Parser_readLevel kA F (N + 1) (nI l) x2 σ = zf_Parser_readLevel_b_35 kA (zf_Parser_readLevel kA F N) F F (nI l) x2 150 0 σ1 := by
    rw [zf_Parser_readLevel]
    unfold zf_Parser_readLevel_b zf_Parser_readLevel_b_31
    rw [show (5 : Int32) = nI 5 from rfl, if_neg (fun h => by have := (nI_eq (by omega) (by omega)).mp h; omega), e1, zq_dr, show (2 : Int32) = nI 2 from rfl, if_neg (fun h => hl2 ((nI_eq (by omega) (by omega)).mp h))]
  rw [ec, hRf, e2, zq_cr]
  rcases hx with ⟨hr, i1, a1, c1, e1, l1, g⟩ | ⟨hr, g⟩
  · have hr : r = 1 := hr
    subst hr
    rw [if_neg (by decide)]
    have hii := g.2.1
    refine yr_m (yx_loop (kA := kA) hl hK hR1 hR2 m F F 0 i1 s a1 c1 e1 σ1 τ1 (by omega) (by omega) (by omega) (by omega) g.2.2.1) (fun σ' r hx => ?_)
    rcases hx with ⟨hr, i2, a2, c2, e2, l2, g2⟩ | ⟨hr, g2⟩
    · exact Or.inl ⟨hr, i2, a2, c2, e2, l1 ++ l2, yXO_t g g2⟩
    · exact Or.inr ⟨hr, yXF_t g g2⟩
  · have hr : r = 0 := hr
    subst hr
    rw [if_pos rfl]
    have g' := g
    obtain ⟨-, f, c', g3, -⟩ := g
    exact yr_i (yx_kloop g3.2.2.2.2 (by omega) hl) rfl (Or.inr ⟨rfl, g'⟩)
theorem ylev_4 {g : Nat} : ylev g = nI 4 ↔ g = 1036 := by
  unfold ylev
  repeat' split
  all_goals constructor <;> intro h <;> first | omega | exact absurd h (by decide) | rfl
theorem ylev_3 {g : Nat} : ylev g = nI 3 ↔ (g = 1034 ∨ g = 1035) := by
  unfold ylev
  repeat' split
  all_goals constructor <;> intro h <;> first | omega | exact absurd h (by decide) | rfl
theorem ylev_2 {g : Nat} : ylev g = nI 2 ↔ (1028 ≤ g ∧ g ≤ 1033) := by
  unfold ylev
  repeat' split
  all_goals constructor <;> intro h <;> first | omega | exact absurd h (by decide) | rfl
theorem ylev_1 {g : Nat} : ylev g = nI 1 ↔ g = 1027 := by
  unfold ylev
  repeat' split
  all_goals constructor <;> intro h <;> first | omega | exact absurd h (by decide) | rfl
theorem ylev_0 {g : Nat} : ylev g = nI 0 ↔ g = 1026 := by
  unfold ylev
  repeat' split
  all_goals constructor <;> intro h <;> first | omega | exact absurd h (by decide) | rfl
theorem yx_cA {G l : Nat} {x2 : Int32} {kA : Int32 → zs_S → Option zs_S} {kL : Int32 → Int32 → zs_S → Option zs_S} {σ1 σ2 σ3 σ4 : zs_S} {g : Nat} (hp : yPP p) (k1 : zs_r σ1 7 6 = g) (k2 : 1000 ≤ g) (k3 : g < 1037) (hlv : ylev g = nI l) (e3 : zf_Parser_advance F σ1 = some σ2) (e5 : kL (nI l + 1) x2 σ2 = some σ3) (pr : zs_r σ3 7 7 = p) (h4 : zf_Code_add F (p + 55) g 0 σ3 = some σ4) : zf_Parser_readLevel_b_35 kA kL F (G + 1 + 1) (nI l) x2 1 0 σ1 = some σ4 := by
  have hp2 := yPP_b hp
  have hle : ¬ (1 : Int32) ≤ 0 := by decide
  have hle2 : (1 : Int32) ≤ 0 + 1 := by decide
  rw [zf_Parser_readLevel_b_35, if_neg hle, k1, zq_qr (by omega), yn_t k2 k3, zq_gr, ylv k2 k3, if_pos hlv, zq_qr (by omega), e3, zq_dr, e5, zq_dr, pr, zq_qr (by omega), yp_k hp, zq_gr, yp_r8 hp, zq_qr (by omega), yp_k55 hp, zq_gr, h4, zq_dr]
  have : ∀ y, (1 : Int32) ≤ y → zf_Parser_readLevel_b_35 kA kL F (G + 1) (nI l) x2 1 y σ4 = some σ4 := by
    intro y hy
    rw [zf_Parser_readLevel_b_35, if_pos hy]
    rfl
  exact this _ hle2
theorem yx_cB {G l : Nat} {x2 : Int32} {kA : Int32 → zs_S → Option zs_S} {kL : Int32 → Int32 → zs_S → Option zs_S} {σ1 : zs_S} {g : Nat} (k1 : zs_r σ1 7 6 = g) (k2 : 1000 ≤ g) (k3 : g < 1037) (hlv : ¬ ylev g = nI l) : zf_Parser_readLevel_b_35 kA kL F (G + 1) (nI l) x2 1 0 σ1 = some σ1 := by
  have hle : ¬ (1 : Int32) ≤ 0 := by decide
  rw [zf_Parser_readLevel_b_35, if_neg hle, k1, zq_qr (by omega), yn_t k2 k3, zq_gr, ylv k2 k3, if_neg hlv]
  unfold zf_Parser_readLevel_b_89
  rfl
/-- the reference's choice of the sign -/
def ycs (kM : Int32 → zs_S → Option (Int32 × zs_S)) (F : Nat) (x1 : Int32) (τ : zs_S) : Option (Int32 × zs_S) :=
    zq_c (zf_M_is F 1323 τ) fun r5 σ4 =>
    if r5 = 0 then (
      zq_c (zf_M_is F 1324 σ4) fun r8 σ7 =>
      if r8 = 0 then (
        zq_c (zf_M_is F 1325 σ7) fun r11 σ10 =>
        if r11 = 0 then (
          zq_c (zf_M_is F 1326 σ10) fun r14 σ13 =>
          if r14 = 0 then (
            zq_c (zf_M_is F 1327 σ13) fun r17 σ16 =>
            if r17 = 0 then (
              zq_c (zf_M_is F 1328 σ16) fun r20 σ19 =>
              if r20 = 0 then (
                zf_M_comparison_101 kM F x1 ((-1)) σ19
              ) else (
                zf_M_comparison_101 kM F x1 13 σ19
              )
            ) else (
              zf_M_comparison_101 kM F x1 12 σ16
            )
          ) else (
            zf_M_comparison_101 kM F x1 11 σ13
          )
        ) else (
          zf_M_comparison_101 kM F x1 10 σ10
        )
      ) else (
        zf_M_comparison_101 kM F x1 9 σ7
      )
    ) else (
      zf_M_comparison_101 kM F x1 8 σ4
    )
theorem ycs_e {kM : Int32 → zs_S → Option (Int32 × zs_S)} {x1 : Int32} {τ : zs_S} : zf_M_comparison kM F x1 τ = zq_c (zf_M_sum kM F x1 τ) fun r2 σ1 => if r2 = 0 then some (0, σ1) else ycs kM F x1 σ1 := rfl
theorem y00 : (0 : Int32) = 0 := rfl
theorem y01 : ¬ (1 : Int32) = 0 := by decide
theorem ycs_1 {i : Nat} {kM : Int32 → zs_S → Option (Int32 × zs_S)} {x1 : Int32} {τ : zs_S} (hA : yx_A F v n (yx_ps v n i) τ) (hg : 1028 ≤ yx_c v n i ∧ yx_c v n i ≤ 1033) : ycs kM F x1 τ = zf_M_comparison_101 kM F x1 (yop (yx_c v n i)) τ := by
  have h6 : yx_c v n i = 1028 ∨ yx_c v n i = 1029 ∨ yx_c v n i = 1030 ∨ yx_c v n i = 1031 ∨ yx_c v n i = 1032 ∨ yx_c v n i = 1033 := by omega
  unfold ycs
  rcases h6 with hh | hh | hh | hh | hh | hh
  · have hh2 : (yx_tk v n (yx_ps v n i)).1 = 1028 := hh
    rw [yi_1323 hA, zq_cr, if_pos hh2, if_neg y01, hh, yo_1028]
  · have hh2 : (yx_tk v n (yx_ps v n i)).1 = 1029 := hh
    rw [yi_1323 hA, zq_cr, if_neg (show ¬ (yx_tk v n (yx_ps v n i)).1 = 1028 by omega), if_pos y00, yi_1324 hA, zq_cr, if_pos hh2, if_neg y01, hh, yo_1029]
  · have hh2 : (yx_tk v n (yx_ps v n i)).1 = 1030 := hh
    rw [yi_1323 hA, zq_cr, if_neg (show ¬ (yx_tk v n (yx_ps v n i)).1 = 1028 by omega), if_pos y00, yi_1324 hA, zq_cr, if_neg (show ¬ (yx_tk v n (yx_ps v n i)).1 = 1029 by omega), if_pos y00, yi_1325 hA, zq_cr, if_pos hh2, if_neg y01, hh, yo_1030]
  · have hh2 : (yx_tk v n (yx_ps v n i)).1 = 1031 := hh
    rw [yi_1323 hA, zq_cr, if_neg (show ¬ (yx_tk v n (yx_ps v n i)).1 = 1028 by omega), if_pos y00, yi_1324 hA, zq_cr, if_neg (show ¬ (yx_tk v n (yx_ps v n i)).1 = 1029 by omega), if_pos y00, yi_1325 hA, zq_cr, if_neg (show ¬ (yx_tk v n (yx_ps v n i)).1 = 1030 by omega), if_pos y00, yi_1326 hA, zq_cr, if_pos hh2, if_neg y01, hh, yo_1031]
  · have hh2 : (yx_tk v n (yx_ps v n i)).1 = 1032 := hh
    rw [yi_1323 hA, zq_cr, if_neg (show ¬ (yx_tk v n (yx_ps v n i)).1 = 1028 by omega), if_pos y00, yi_1324 hA, zq_cr, if_neg (show ¬ (yx_tk v n (yx_ps v n i)).1 = 1029 by omega), if_pos y00, yi_1325 hA, zq_cr, if_neg (show ¬ (yx_tk v n (yx_ps v n i)).1 = 1030 by omega), if_pos y00, yi_1326 hA, zq_cr, if_neg (show ¬ (yx_tk v n (yx_ps v n i)).1 = 1031 by omega), if_pos y00, yi_1327 hA, zq_cr, if_pos hh2, if_neg y01, hh, yo_1032]
  · have hh2 : (yx_tk v n (yx_ps v n i)).1 = 1033 := hh
    rw [yi_1323 hA, zq_cr, if_neg (show ¬ (yx_tk v n (yx_ps v n i)).1 = 1028 by omega), if_pos y00, yi_1324 hA, zq_cr, if_neg (show ¬ (yx_tk v n (yx_ps v n i)).1 = 1029 by omega), if_pos y00, yi_1325 hA, zq_cr, if_neg (show ¬ (yx_tk v n (yx_ps v n i)).1 = 1030 by omega), if_pos y00, yi_1326 hA, zq_cr, if_neg (show ¬ (yx_tk v n (yx_ps v n i)).1 = 1031 by omega), if_pos y00, yi_1327 hA, zq_cr, if_neg (show ¬ (yx_tk v n (yx_ps v n i)).1 = 1032 by omega), if_pos y00, yi_1328 hA, zq_cr, if_pos hh2, if_neg y01, hh, yo_1033]
theorem ycs_0 {i : Nat} {kM : Int32 → zs_S → Option (Int32 × zs_S)} {x1 : Int32} {τ : zs_S} (hA : yx_A F v n (yx_ps v n i) τ) (hg : ¬ (1028 ≤ yx_c v n i ∧ yx_c v n i ≤ 1033)) : ycs kM F x1 τ = some (1, τ) := by
  have hg : ¬ (1028 ≤ (yx_tk v n (yx_ps v n i)).1 ∧ (yx_tk v n (yx_ps v n i)).1 ≤ 1033) := hg
  have hle : ¬ (0 : Int32) ≤ -1 := by decide
  unfold ycs
  rw [yi_1323 hA, zq_cr, if_neg (show ¬ (yx_tk v n (yx_ps v n i)).1 = 1028 by omega), if_pos y00, yi_1324 hA, zq_cr, if_neg (show ¬ (yx_tk v n (yx_ps v n i)).1 = 1029 by omega), if_pos y00, yi_1325 hA, zq_cr, if_neg (show ¬ (yx_tk v n (yx_ps v n i)).1 = 1030 by omega), if_pos y00, yi_1326 hA, zq_cr, if_neg (show ¬ (yx_tk v n (yx_ps v n i)).1 = 1031 by omega), if_pos y00, yi_1327 hA, zq_cr, if_neg (show ¬ (yx_tk v n (yx_ps v n i)).1 = 1032 by omega), if_pos y00, yi_1328 hA, zq_cr, if_neg (show ¬ (yx_tk v n (yx_ps v n i)).1 = 1033 by omega), if_pos y00]
  unfold zf_M_comparison_101
  rw [if_neg hle]
theorem yop_0 {g : Nat} (h : 1000 ≤ g) (h2 : g < 1037) : (0 : Int32) ≤ yop g := by
  have : ∀ x, x < 37 → (0 : Int32) ≤ yop (1000 + x) := by decide +kernel
  have := this (g - 1000) (by omega)
  rw [show 1000 + (g - 1000) = g by omega] at this
  exact this
/-- a comparison: one sign at most -/
theorem yx_cmp {N : Nat} {x2 x1 : Int32} {kA : Int32 → zs_S → Option zs_S} {kM : Int32 → zs_S → Option (Int32 × zs_S)} (hF : 1700 < F) (hK : yXR F v n m p q t V L T (zf_Parser_readLevel kA F N (nI 2 + 1) x2) (zf_M_sum kM F x1)) : yXR F v n m p q t V L T (zf_Parser_readLevel kA F (N + 1) (nI 2) x2) (zf_M_comparison kM F x1) := by
  intro i s a c e σ τ h
  obtain ⟨σ1, ⟨r, τ1⟩, e1, e2, hx⟩ := hK _ _ _ _ _ _ _ h
  obtain ⟨G, hG⟩ : ∃ G, F = G + 1 + 1 := ⟨F - 2, by omega⟩
  have h25 : ¬ nI 2 = 5 := by decide
  have h22 : nI 2 = 2 := by decide
  have ec : zf_Parser_readLevel kA F (N + 1) (nI 2) x2 σ = zf_Parser_readLevel_b_35 kA (zf_Parser_readLevel kA F N) F F (nI 2) x2 1 0 σ1 := by
    rw [zf_Parser_readLevel]
    unfold zf_Parser_readLevel_b zf_Parser_readLevel_b_31
    rw [if_neg h25, e1, zq_dr, if_pos h22]
  rw [ec, ycs_e, e2, zq_cr]
  rcases hx with ⟨hr, i1, a1, c1, e1, l1, g⟩ | ⟨hr, g⟩
  · have hr : r = 1 := hr
    subst hr
    rw [if_neg (by decide)]
    have hN := g.2.2.1
    obtain ⟨k1, k2, k3, k4, hA, hp2, hq2⟩ := yN_tok hN
    by_cases hlv : ylev (yx_c v n i1) = nI 2
    · obtain ⟨σ2, τ2, e3, e4, σ3, r, τ3, e5, e6, pr, hx⟩ := yx_it hN hK (ylev_op (by decide) hlv)
      rw [ycs_1 hA (ylev_2.mp hlv)]
      unfold zf_M_comparison_101
      rw [if_pos (yop_0 k2 k3), e4, zq_dr, e6, zq_cr]
      rcases hx with ⟨hr, σ4, τ4, e7, e8, i', a', c', e', l', g0, g2⟩ | ⟨hr, σ4, e7, g1, g2⟩
      · subst hr
        rw [if_neg (by decide), e8, zq_dr]
        have hA1 := yx_cA (F := F) (G := G) (kA := kA) h.1.2.1 k1 k2 k3 hlv e3 e5 pr e7
        rw [← hG] at hA1
        exact yr_i hA1 rfl (Or.inl ⟨rfl, i', a', c', e', l1 ++ l', yXO_t g g2⟩)
      · subst hr
        rw [if_pos rfl]
        have hA1 := yx_cA (F := F) (G := G) (kA := kA) h.1.2.1 k1 k2 k3 hlv e3 e5 pr e7
        rw [← hG] at hA1
        exact yr_i hA1 rfl (Or.inr ⟨rfl, yXF_t g g2⟩)
    · rw [ycs_0 hA (fun h => hlv (ylev_2.mpr h))]
      have hA1 := yx_cB (F := F) (G := G + 1) (x2 := x2) (kA := kA) (kL := zf_Parser_readLevel kA F N) k1 k2 k3 hlv
      rw [← hG] at hA1
      exact yr_i hA1 rfl (Or.inl ⟨rfl, i1, a1, c1, e1, l1, g⟩)
  · have hr : r = 0 := hr
    subst hr
    have g' := g
    obtain ⟨-, f, c', g3, -⟩ := g
    rw [if_pos rfl]
    exact yr_i (yx_kloop g3.2.2.2.2 (by omega) (by decide)) rfl (Or.inr ⟨rfl, g'⟩)
/-- all levels, out of the atoms -/
theorem yx_five {N : Nat} {x2 : Int32} {kA : Int32 → zs_S → Option zs_S} {kM : Int32 → zs_S → Option (Int32 × zs_S)} (hK : yXR F v n m p q t V L T (kA x2) (kM x2)) : yXR F v n m p q t V L T (zf_Parser_readLevel kA F (N + 1) (nI 4 + 1) x2) (kM x2) := by
  intro i s a c e σ τ h
  have : zf_Parser_readLevel kA F (N + 1) (nI 4 + 1) x2 σ = kA x2 σ := by
    rw [zf_Parser_readLevel]
    unfold zf_Parser_readLevel_b
    rw [if_pos (by decide)]
    exact yq_d
  rw [this]
  exact hK _ _ _ _ _ _ _ h
theorem yx_either {N : Nat} {x2 : Int32} {kA : Int32 → zs_S → Option zs_S} {kM : Int32 → zs_S → Option (Int32 × zs_S)} (hF : 1700 < F) (hK : yXR F v n m p q t V L T (kA x2) (kM x2)) : yXR F v n m p q t V L T (zf_Parser_readLevel kA F (N + 6) 0 x2) (zf_M_either kM F x2) := by
  have h5 := yx_five (N := N) hK
  have h4 : yXR F v n m p q t V L T (zf_Parser_readLevel kA F (N + 2) (nI 3 + 1) x2) (zf_M_product kM F x2) := by
    refine yx_lev (l := 4) (R := fun N => zf_M_product_10 kM F N x2) (by decide) (by decide) hF h5 (fun N i τ hM hlv => ?_) (fun N i τ hM hlv => ?_) (fun τ => rfl)
    · have hh : ¬ (yx_tk v n (yx_ps v n i)).1 = 1036 := fun h => hlv (ylev_4.mpr h)
      show zf_M_product_10 kM F (N + 1) x2 τ = _
      rw [zf_M_product_10]
      simp only [yi_1330 hM.1, zq_cr, hh, reduceIte]
    · have hh := ylev_4.mp hlv
      have hh2 : (yx_tk v n (yx_ps v n i)).1 = 1036 := hh
      show zf_M_product_10 kM F (N + 1) x2 τ = _
      rw [zf_M_product_10]
      simp only [yi_1330 hM.1, zq_cr, hh, hh2, reduceIte, y10, yo_1036, yo_1027]
  have h3 : yXR F v n m p q t V L T (zf_Parser_readLevel kA F (N + 3) (nI 2 + 1) x2) (zf_M_sum kM F x2) := by
    refine yx_lev (l := 3) (R := fun N => zf_M_sum_10 kM F N x2) (by decide) (by decide) hF h4 (fun N i τ hM hlv => ?_) (fun N i τ hM hlv => ?_) (fun τ => rfl)
    · have hh : ¬ (yx_tk v n (yx_ps v n i)).1 = 1034 := fun h => hlv (ylev_3.mpr (Or.inl h))
      have hh2 : ¬ (yx_tk v n (yx_ps v n i)).1 = 1035 := fun h => hlv (ylev_3.mpr (Or.inr h))
      show zf_M_sum_10 kM F (N + 1) x2 τ = _
      rw [zf_M_sum_10]
      simp only [yi_1329 hM.1, yi_1315 hM.1, zq_cr, hh, hh2, reduceIte]
    · show zf_M_sum_10 kM F (N + 1) x2 τ = _
      rw [zf_M_sum_10]
      unfold zf_M_sum_29 zf_M_sum_44
      rcases ylev_3.mp hlv with hh | hh
      · have hh2 : (yx_tk v n (yx_ps v n i)).1 = 1034 := hh
        simp only [yi_1329 hM.1, yi_1315 hM.1, zq_cr, hh, hh2, reduceIte, y10, yo_1034]
      · have hh2 : (yx_tk v n (yx_ps v n i)).1 = 1035 := hh
        simp only [yi_1329 hM.1, yi_1315 hM.1, zq_cr, hh, hh2, reduceIte, y10, Nat.reduceEqDiff, yo_1035]
  have h2 := yx_cmp (N := N + 3) hF h3
  have h1 : yXR F v n m p q t V L T (zf_Parser_readLevel kA F (N + 5) (nI 0 + 1) x2) (zf_M_both kM F x2) := by
    refine yx_lev (l := 1) (R := fun N => zf_M_both_10 kM F N x2) (by decide) (by decide) hF h2 (fun N i τ hM hlv => ?_) (fun N i τ hM hlv => ?_) (fun τ => rfl)
    · have hh : ¬ (yx_tk v n (yx_ps v n i)).1 = 1027 := fun h => hlv (ylev_1.mpr h)
      show zf_M_both_10 kM F (N + 1) x2 τ = _
      rw [zf_M_both_10]
      simp only [yi_1322 hM.1, zq_cr, hh, reduceIte]
    · have hh := ylev_1.mp hlv
      have hh2 : (yx_tk v n (yx_ps v n i)).1 = 1027 := hh
      show zf_M_both_10 kM F (N + 1) x2 τ = _
      rw [zf_M_both_10]
      simp only [yi_1322 hM.1, zq_cr, hh, hh2, reduceIte, y10, yo_1036, yo_1027]
  refine yx_lev (l := 0) (R := fun N => zf_M_either_10 kM F N x2) (by decide) (by decide) hF h1 (fun N i τ hM hlv => ?_) (fun N i τ hM hlv => ?_) (fun τ => rfl)
  · have hh : ¬ (yx_tk v n (yx_ps v n i)).1 = 1026 := fun h => hlv (ylev_0.mpr h)
    show zf_M_either_10 kM F (N + 1) x2 τ = _
    rw [zf_M_either_10]
    simp only [yi_1321 hM.1, zq_cr, hh, reduceIte]
  · have hh := ylev_0.mp hlv
    have hh2 : (yx_tk v n (yx_ps v n i)).1 = 1026 := hh
    show zf_M_either_10 kM F (N + 1) x2 τ = _
    rw [zf_M_either_10]
    simp only [yi_1321 hM.1, zq_cr, hh, hh2, reduceIte, y10, yo_1026]
end YLA
