/-! the questions: race -/
section YQR
variable {F n m p q t V L T : Nat} {v : Nat → Nat}
/-- the variable w is read -/
def yoc (w : Nat) (l : List (Nat × Int32)) : Prop := ∃ g, g ∈ l ∧ g.1 = 1002 ∧ g.2 = nI w
theorem ybm_a : ∀ m, m < 256 → ∀ k, k < 8 → nI m ||| (1 <<< (nI k &&& 31)) = nI (m ||| 2 ^ k) ∧ m ||| 2 ^ k < 256 := by decide +kernel
theorem ybm_b : ∀ m, m < 256 → ∀ k, k < 8 → (((nI m >>> (nI k &&& 31)) &&& 1 = 0) ↔ m.testBit k = false) := by decide +kernel
theorem ybm_c {m k w : Nat} : (m ||| 2 ^ k).testBit w = (m.testBit w || decide (k = w)) := by
  rw [Nat.testBit_or, Nat.testBit_two_pow]
theorem yu1_s {m : Nat} {g : Nat × Int32} (hm : m < 256) (hV : V ≤ 8 ∧ t < 4 ∧ T ≤ 3) (hg : yEl t V T g) : ∃ m', m' < 256 ∧ yu1 (nI m) g = nI m' ∧ ∀ w, w < 8 → (m'.testBit w = true ↔ (m.testBit w = true ∨ (g.1 = 1002 ∧ g.2 = nI w))) := by
  have keep : ¬ (g.1 = 1002 ∧ g.2 < 8) → (∀ w, w < 8 → ¬ (g.1 = 1002 ∧ g.2 = nI w)) → ∃ m', m' < 256 ∧ yu1 (nI m) g = nI m' ∧ ∀ w, w < 8 → (m'.testBit w = true ↔ (m.testBit w = true ∨ (g.1 = 1002 ∧ g.2 = nI w))) := fun h1 h2 => ⟨m, hm, if_neg h1, fun w hw => ⟨Or.inl, fun hh => hh.elim id (fun h => absurd h (h2 w hw))⟩⟩
  rcases hg with ⟨h1, -⟩ | ⟨h1, k, k1, k2⟩ | ⟨h1, k, k1, k2⟩ | h1
  · exact keep (by omega) (fun w _ => by omega)
  · obtain ⟨a1, a2⟩ := ybm_a m hm k (by omega)
    refine ⟨m ||| 2 ^ k, a2, ?_, fun w hw => ?_⟩
    · unfold yu1
      rw [if_pos ⟨h1, by rw [k2]; exact nI_lt (b := 8) (by omega) (by decide)⟩, k2]
      exact a1
    · rw [ybm_c, Bool.or_eq_true, decide_eq_true_eq, k2, nI_eq (by omega) (by omega)]
      exact ⟨fun hh => hh.elim Or.inl (fun e => Or.inr ⟨h1, e⟩), fun hh => hh.elim Or.inl (fun e => Or.inr e.2)⟩
  · refine keep (fun hh => ?_) (fun w hw hh => ?_)
    · have := hh.2
      rw [k2] at this
      exact nI_nlt (b := 8) (by omega) (by omega) this
    · have := hh.2
      rw [k2] at this
      have := (nI_eq (by omega) (by omega)).mp this
      omega
  · exact keep (by omega) (fun w _ => by omega)
theorem yu1_f (hV : V ≤ 8 ∧ t < 4 ∧ T ≤ 3) : ∀ (l : List (Nat × Int32)) m, m < 256 → (∀ g, g ∈ l → yEl t V T g) → ∃ m', m' < 256 ∧ l.foldl yu1 (nI m) = nI m' ∧ ∀ w, w < 8 → (m'.testBit w = true ↔ (m.testBit w = true ∨ yoc w l)) := by
  intro l
  induction l with
  | nil => intro m hm _; exact ⟨m, hm, rfl, fun w _ => ⟨Or.inl, fun hh => hh.elim id (fun ⟨g, h1, _⟩ => absurd h1 List.not_mem_nil)⟩⟩
  | cons g l ih =>
    intro m hm hg
    obtain ⟨m1, a1, a2, a3⟩ := yu1_s hm hV (hg g List.mem_cons_self)
    obtain ⟨m2, b1, b2, b3⟩ := ih m1 a1 (fun g' h => hg g' (List.mem_cons_of_mem _ h))
    refine ⟨m2, b1, ?_, fun w hw => ?_⟩
    · show l.foldl yu1 (yu1 (nI m) g) = nI m2
      rw [a2, b2]
    · rw [b3 w hw, a3 w hw]
      constructor
      · rintro ((h | h) | ⟨g', h1, h2⟩)
        · exact Or.inl h
        · exact Or.inr ⟨g, List.mem_cons_self, h⟩
        · exact Or.inr ⟨g', List.mem_cons_of_mem _ h1, h2⟩
      · rintro (h | ⟨g', h1, h2⟩)
        · exact Or.inl (Or.inl h)
        · rcases List.mem_cons.mp h1 with e | e
          · rw [e] at h2
            exact Or.inl (Or.inr h2)
          · exact Or.inr ⟨g', e, h2⟩
/-- the statement x uses the variable w -/
def yus (kd tg : Nat → Nat) (ex : Nat → List (Nat × Int32)) (x w : Nat) : Prop := (kd x = 0 ∧ tg x = w) ∨ ((kd x = 0 ∨ (6 ≤ kd x ∧ kd x ≤ 8)) ∧ yoc w (ex x))
theorem yq_uses {tt S t x w : Nat} {B Tt kd tg : Nat → Nat} {wy : Nat → Nat → Int32} {ex : Nat → List (Nat × Int32)} {σ : zs_S} (hp : yPP p) (hpp : yPp V L tt S B Tt kd tg wy ex) (hpc : yPc σ p V L tt S B Tt kd tg wy ex) (ht : t < tt) (x1 : B t ≤ x) (x2 : x < B (t + 1)) (hw : w < V) : ∃ b : Int32, zf_Statement_uses F (p + 5 + x) (nI w) σ = some (b, σ) ∧ ((b = 1 ∧ yus kd tg ex x w) ∨ (b = 0 ∧ ¬ yus kd tg ex x w)) := by
  have hS := hpp.1
  have hx50 : x < 50 := by
    have := hpp.2.1.2.2.2 (t + 1) (by omega)
    omega
  obtain ⟨q1, q2, q3, q4, q5⟩ := hpp.2.2.2 t x ht x1 x2
  obtain ⟨-, -, -, -, r5⟩ := hpc.2.2 t x ht x1 x2
  have hT3 := hpp.2.2.1 t ht
  have hV : V ≤ 8 ∧ t < 4 ∧ Tt t ≤ 3 := ⟨by omega, by omega, hT3⟩
  have hmask : ∃ m, m < 256 ∧ zs_i σ (p + 5 + x) 8 = nI m ∧ (m.testBit w = true ↔ yus kd tg ex x w) := by
    rw [r5]
    by_cases h0 : kd x = 0
    · rw [if_pos h0]
      obtain ⟨g5, -⟩ := q5 (Or.inl h0)
      obtain ⟨m1, a1, a2, a3⟩ := yu1_f hV (ex x) 0 (by omega) g5
      have a2' : (ex x).foldl yu1 0 = nI m1 := a2
      have hel : yEl t V (Tt t) (1002, nI (tg x)) := by
        rcases q2 h0 with hh | ⟨h1, h2⟩
        · exact Or.inr (Or.inl ⟨rfl, tg x, hh, rfl⟩)
        · exact Or.inr (Or.inr (Or.inl ⟨rfl, tg x - (20 + 3 * t), by omega, by rw [show 20 + 3 * t + (tg x - (20 + 3 * t)) = tg x by omega]⟩))
      obtain ⟨m2, b1, b2, b3⟩ := yu1_s a1 hV hel
      refine ⟨m2, b1, by rw [a2', b2], ?_⟩
      rw [b3 w (by omega), a3 w (by omega)]
      have htg := q2 h0
      constructor
      · rintro ((h | h) | ⟨-, h⟩)
        · rw [Nat.zero_testBit] at h
          exact absurd h (by decide)
        · exact Or.inr ⟨Or.inl h0, h⟩
        · exact Or.inl ⟨h0, (nI_eq (by omega) (by omega)).mp h⟩
      · rintro (⟨-, h⟩ | ⟨-, h⟩)
        · exact Or.inr ⟨rfl, by rw [h]⟩
        · exact Or.inl (Or.inr h)
    · rw [if_neg h0]
      by_cases h6 : 6 ≤ kd x ∧ kd x ≤ 8
      · rw [if_pos h6]
        obtain ⟨g5, -⟩ := q5 (Or.inr h6)
        obtain ⟨m1, a1, a2, a3⟩ := yu1_f hV (ex x) 0 (by omega) g5
        refine ⟨m1, a1, a2, ?_⟩
        rw [a3 w (by omega)]
        constructor
        · rintro (h | h)
          · rw [Nat.zero_testBit] at h
            exact absurd h (by decide)
          · exact Or.inr ⟨Or.inr h6, h⟩
        · rintro (⟨h, -⟩ | ⟨-, h⟩)
          · exact absurd h h0
          · exact Or.inr h
      · rw [if_neg h6]
        refine ⟨0, by omega, rfl, ?_⟩
        rw [Nat.zero_testBit]
        constructor
        · intro h
          exact absurd h (by decide)
        · rintro (⟨h, -⟩ | ⟨h, -⟩)
          · exact absurd h h0
          · exact absurd h (by omega)
  obtain ⟨m, m1, m2, m3⟩ := hmask
  have hb := ybm_b m m1 w (by omega)
  unfold zf_Statement_uses zf_Statement_uses_16
  rw [yp_sk hp hx50, yq_g, m2, yz_0, yz_1, yq_g, yq_g]
  cases ht : m.testBit w with
  | true =>
    rw [if_neg (fun hh => by rw [hb.mp hh] at ht; exact absurd ht (by decide))]
    exact ⟨1, rfl, Or.inl ⟨rfl, m3.mp ht⟩⟩
  | false =>
    rw [if_pos (hb.mpr ht)]
    exact ⟨0, rfl, Or.inr ⟨rfl, fun hh => by rw [m3.mpr hh] at ht; exact absurd ht (by decide)⟩⟩
theorem yop_g : ∀ g, g < 12 → ¬ yop (1025 + g) ≤ 2 ∧ ¬ yop (1025 + g) = 16 := by decide +kernel
theorem ym_hl {w e' : Nat} (hq : yQQ q) (hV : V ≤ 8 ∧ t < 4 ∧ T ≤ 3) (he' : e' ≤ 6400) (hw : w < 8) : ∀ (l : List (Nat × Int32)) e N τ, yRw τ q (l.flatMap (ysp t) ++ [16]) e e' → (∀ g, g ∈ l → yEl t V T g) → zs_r τ 1 2 = q → l.length < N → ∃ b : Int32, zf_M_has_64 F N (nI w) (nI e) τ = some (b, τ) ∧ ((b = 1 ∧ yoc w l) ∨ (b = 0 ∧ ¬ yoc w l)) := by
  have hq2 := yQQ_b hq
  intro l
  induction l with
  | nil =>
    intro e N τ h1 h4 hr h6
    obtain ⟨N, rfl⟩ : ∃ q, N = q + 1 := ⟨N - 1, by have : ([] : List (Nat × Int32)).length = 0 := rfl; omega⟩
    obtain ⟨a1, a2⟩ : zs_i τ (q + 14) e = 16 ∧ e + 1 = e' := h1
    refine ⟨0, ?_, Or.inr ⟨rfl, fun ⟨g, h1, _⟩ => absurd h1 List.not_mem_nil⟩⟩
    rw [zf_M_has_64, hr, zq_qr (by omega), yv_k hq, yq_g, yv_r11 hq, zq_qr (by omega), yv_k14 hq, yq_g, yv_z14 hq, yn_b (show e < 6400 by omega) (by decide), yq_g, nI_clamp (by omega), a1, if_pos rfl]
  | cons g l ih =>
    intro e N τ h1 h4 hr h6
    rw [List.length_cons] at h6
    obtain ⟨N, rfl⟩ : ∃ q, N = q + 1 := ⟨N - 1, by omega⟩
    have hg := h4 g List.mem_cons_self
    have hl4 : ∀ g', g' ∈ l → yEl t V T g' := fun g' hg' => h4 g' (List.mem_cons_of_mem _ hg')
    have hflat : (g :: l).flatMap (ysp t) ++ [16] = ysp t g ++ (l.flatMap (ysp t) ++ [16]) := by
      rw [List.flatMap_cons, List.append_assoc]
    rw [hflat] at h1
    have hle0 := yRw_le h1
    rw [List.length_append, List.length_append] at hle0
    have hl16 : ([16] : List Int32).length = 1 := rfl
    have pre : ∀ x, zs_i τ (q + 14) e = x → ¬ x = 16 → e < 6400 → zf_M_has_64 F (N + 1) (nI w) (nI e) τ = if x ≤ 2 then (if x = 1 then (zq_g (zq_b (nI (e + 1)) 6400) <| if zs_i τ (q + 14) (nI (e + 1)).toNatClampNeg = nI w then some (1, τ) else zf_M_has_64 F N (nI w) (nI (e + 1 + 1)) τ) else zf_M_has_64 F N (nI w) (nI (e + 1 + 1)) τ) else zf_M_has_64 F N (nI w) (nI (e + 1)) τ := by
      intro x hx h16 he
      rw [zf_M_has_64, hr, zq_qr (by omega), yv_k hq, yq_g, yv_r11 hq, zq_qr (by omega), yv_k14 hq, yq_g, yv_z14 hq, yn_b he (by decide), yq_g, nI_clamp (by omega), hx, if_neg h16, zq_qr (by omega), yv_k hq, yq_g, yv_r11 hq, zq_qr (by omega), yv_k14 hq, yq_g, yv_z14 hq, yn_b he (by decide), yq_g]
      unfold zf_M_has_125
      simp only [yq_v, hx, nI_1]
      rw [zq_qr (by omega), yv_k hq, yq_g, yv_r11 hq, zq_qr (by omega), yv_k14 hq, yq_g, yv_z14 hq]
    have rest : ∀ e1, yRw τ q (l.flatMap (ysp t) ++ [16]) e1 e' → ¬ (g.1 = 1002 ∧ g.2 = nI w) → ∃ b : Int32, zf_M_has_64 F N (nI w) (nI e1) τ = some (b, τ) ∧ ((b = 1 ∧ yoc w (g :: l)) ∨ (b = 0 ∧ ¬ yoc w (g :: l))) := by
      intro e1 e2 hn
      obtain ⟨b, b1, b2⟩ := ih e1 N τ e2 hl4 hr (by omega)
      refine ⟨b, b1, ?_⟩
      rcases b2 with ⟨b2, g', h1, h2⟩ | ⟨b2, b3⟩
      · exact Or.inl ⟨b2, g', List.mem_cons_of_mem _ h1, h2⟩
      · refine Or.inr ⟨b2, fun ⟨g', h1, h2⟩ => ?_⟩
        rcases List.mem_cons.mp h1 with e | e
        · rw [e] at h2
          exact hn h2
        · exact b3 ⟨g', e, h2⟩
    by_cases g3 : g.1 = 1003
    · have es : ysp t g = [0, g.2] := if_pos g3
      rw [es] at h1 hle0
      obtain ⟨b1, b2, b3⟩ : zs_i τ (q + 14) e = 0 ∧ zs_i τ (q + 14) (e + 1) = g.2 ∧ yRw τ q (l.flatMap (ysp t) ++ [16]) (e + 1 + 1) e' := h1
      have hl2 : ([0, g.2] : List Int32).length = 2 := rfl
      rw [pre 0 b1 (by decide) (by omega), if_pos (by decide), if_neg (by decide)]
      exact rest _ b3 (by omega)
    · by_cases g2 : g.1 = 1002
      · by_cases g8 : g.2 < 8
        · have es : ysp t g = [1, g.2] := by
            unfold ysp
            rw [if_neg g3, if_pos g2, if_pos g8]
          rw [es] at h1 hle0
          obtain ⟨b1, b2, b3⟩ : zs_i τ (q + 14) e = 1 ∧ zs_i τ (q + 14) (e + 1) = g.2 ∧ yRw τ q (l.flatMap (ysp t) ++ [16]) (e + 1 + 1) e' := h1
          have hl2 : ([1, g.2] : List Int32).length = 2 := rfl
          rw [pre 1 b1 (by decide) (by omega), if_pos (by decide), if_pos rfl, yn_b (show e + 1 < 6400 by omega) (by decide), yq_g, nI_clamp (by omega), b2]
          by_cases hgw : g.2 = nI w
          · rw [if_pos hgw]
            exact ⟨1, rfl, Or.inl ⟨rfl, g, List.mem_cons_self, g2, hgw⟩⟩
          · rw [if_neg hgw]
            exact rest _ b3 (fun hh => hgw hh.2)
        · have es : ysp t g = [2, g.2 - nI (20 + 3 * t)] := by
            unfold ysp
            rw [if_neg g3, if_pos g2, if_neg g8]
          rw [es] at h1 hle0
          obtain ⟨b1, b2, b3⟩ : zs_i τ (q + 14) e = 2 ∧ zs_i τ (q + 14) (e + 1) = g.2 - nI (20 + 3 * t) ∧ yRw τ q (l.flatMap (ysp t) ++ [16]) (e + 1 + 1) e' := h1
          have hl2 : ([2, g.2 - nI (20 + 3 * t)] : List Int32).length = 2 := rfl
          rw [pre 2 b1 (by decide) (by omega), if_pos (by decide), if_neg (by decide)]
          exact rest _ b3 (fun hh => g8 (by rw [hh.2]; exact nI_lt (b := 8) hw (by decide)))
      · have es : ysp t g = [yop g.1] := by
          unfold ysp
          rw [if_neg g3, if_neg g2]
        rw [es] at h1 hle0
        obtain ⟨b1, b3⟩ : zs_i τ (q + 14) e = yop g.1 ∧ yRw τ q (l.flatMap (ysp t) ++ [16]) (e + 1) e' := h1
        have hl2 : ([yop g.1] : List Int32).length = 1 := rfl
        have ho : ¬ yop g.1 ≤ 2 ∧ ¬ yop g.1 = 16 := by
          rcases hg with ⟨h1, -⟩ | ⟨h1, -⟩ | ⟨h1, -⟩ | (h1 | h1) | h1
          · exact absurd h1 g3
          · exact absurd h1 g2
          · exact absurd h1 g2
          · rw [h1]
            exact yop_g 0 (by omega)
          · rw [h1]
            decide
          · have := yop_g (g.1 - 1025) (by omega)
            rw [show 1025 + (g.1 - 1025) = g.1 by omega] at this
            exact this
        rw [pre _ b1 ho.2 (by omega), if_neg ho.1]
        exact rest _ b3 (fun hh => g2 hh.1)
theorem ym_has {tt S t x w : Nat} {B Tt kd tg : Nat → Nat} {wy : Nat → Nat → Int32} {ex : Nat → List (Nat × Int32)} {τ : zs_S} (hq : yQQ q) (hF : 7000 < F) (hpp : yPp V L tt S B Tt kd tg wy ex) (hpm : yPm τ q V L tt S B Tt kd tg wy ex) (hr2 : zs_r τ 1 2 = q) (ht : t < tt) (x1 : B t ≤ x) (x2 : x < B (t + 1)) (hw : w < V) : ∃ b : Int32, zf_M_has F (nI x) (nI w) τ = some (b, τ) ∧ ((b = 1 ∧ yus kd tg ex x w) ∨ (b = 0 ∧ ¬ yus kd tg ex x w)) := by
  have hq2 := yQQ_b hq
  have hS := hpp.1
  have hx50 : x < 50 := by
    have := hpp.2.1.2.2.2 (t + 1) (by omega)
    omega
  obtain ⟨q1, q2, q3, q4, q5⟩ := hpp.2.2.2 t x ht x1 x2
  obtain ⟨r1, r2, r3, r4, r5⟩ := hpm.2.2 t x ht x1 x2
  have hT3 := hpp.2.2.1 t ht
  have hV : V ≤ 8 ∧ t < 4 ∧ Tt t ≤ 3 := ⟨by omega, by omega, hT3⟩
  have h53 : (kd x = 0 ∨ (6 ≤ kd x ∧ kd x ≤ 8)) → ¬ (kd x = 0 ∧ tg x = w) → ∃ b : Int32, zf_M_has_53 F (nI x) (nI w) τ = some (b, τ) ∧ ((b = 1 ∧ yus kd tg ex x w) ∨ (b = 0 ∧ ¬ yus kd tg ex x w)) := by
    intro hk hn
    obtain ⟨g5, -⟩ := q5 hk
    obtain ⟨e, e', d1, d2, d3⟩ := r5 hk
    have hle := yRw_le d3
    have hll := ysp_l (t := t) (ex x)
    rw [List.length_append] at hle
    obtain ⟨b, b1, b2⟩ := ym_hl (F := F) (w := w) hq hV d2 (by omega) (ex x) e F τ d3 g5 hr2 (by omega)
    refine ⟨b, ?_, ?_⟩
    · unfold zf_M_has_53
      rw [hr2, zq_qr (by omega), yv_k hq, yq_g, yv_r9 hq, zq_qr (by omega), yv_k12 hq, yq_g, yv_z12 hq, yn_b hx50 (by decide), yq_g, nI_clamp (by omega), d1, yq_v, b1]
    · rcases b2 with ⟨b2, b3⟩ | ⟨b2, b3⟩
      · exact Or.inl ⟨b2, Or.inr ⟨hk, b3⟩⟩
      · exact Or.inr ⟨b2, fun hh => hh.elim hn (fun h => b3 h.2)⟩
  have k0 : kd x = 0 ∨ kd x = 6 ∨ kd x = 7 ∨ kd x = 8 ∨ (¬ kd x = 0 ∧ ¬ kd x = 6 ∧ ¬ kd x = 7 ∧ ¬ kd x = 8) := by omega
  unfold zf_M_has
  rw [hr2, zq_qr (by omega), yv_k hq, yq_g, yv_r7 hq, zq_qr (by omega), yv_k10 hq, yq_g, yv_z10 hq, yn_b hx50 (by decide), yq_g, nI_clamp (by omega), r1, yq_v]
  unfold zf_M_has_29
  rcases k0 with e | e | e | e | ⟨e0, e6, e7, e8⟩
  · rw [show nI (kd x) = (0 : Int32) from by rw [e]; rfl, if_pos rfl, zq_qr (by omega), yv_k hq, yq_g, yv_r8 hq, zq_qr (by omega), yv_k11 hq, yq_g, yv_z11 hq, yn_b hx50 (by decide), yq_g, r2 e]
    by_cases h8 : tg x < 8
    · rw [if_pos h8]
      by_cases hw2 : tg x = w
      · rw [if_pos (show nI (tg x) = nI w by rw [hw2])]
        exact ⟨1, rfl, Or.inl ⟨rfl, Or.inl ⟨e, hw2⟩⟩⟩
      · rw [if_neg (fun hh => hw2 ((nI_eq (by omega) (by omega)).mp hh)), if_pos rfl]
        exact h53 (Or.inl e) (fun hh => hw2 hh.2)
    · have htg := q2 e
      rw [if_neg h8, if_neg (fun hh => by have := (nI_eq (by omega) (by omega)).mp hh; omega), if_pos rfl]
      exact h53 (Or.inl e) (fun hh => by omega)
  · rw [show nI (kd x) = (6 : Int32) from by rw [e]; rfl, if_neg (by decide), if_neg (by decide), if_pos rfl]
    exact h53 (by omega) (by omega)
  · rw [show nI (kd x) = (7 : Int32) from by rw [e]; rfl, if_neg (by decide), if_neg (by decide), if_neg (by decide), if_pos rfl]
    exact h53 (by omega) (by omega)
  · rw [show nI (kd x) = (8 : Int32) from by rw [e]; rfl, if_neg (by decide), if_neg (by decide), if_neg (by decide), if_neg (by decide), if_pos rfl]
    exact h53 (by omega) (by omega)
  · have n0 : ¬ nI (kd x) = (0 : Int32) := fun hh => e0 ((nI_eq (b := 0) (by omega) (by omega)).mp hh)
    have n6 : ¬ nI (kd x) = (6 : Int32) := fun hh => e6 ((nI_eq (b := 6) (by omega) (by omega)).mp hh)
    have n7 : ¬ nI (kd x) = (7 : Int32) := fun hh => e7 ((nI_eq (b := 7) (by omega) (by omega)).mp hh)
    have n8 : ¬ nI (kd x) = (8 : Int32) := fun hh => e8 ((nI_eq (b := 8) (by omega) (by omega)).mp hh)
    rw [if_neg n0, if_neg n0, if_neg n6, if_neg n7, if_neg n8]
    refine ⟨0, rfl, Or.inr ⟨rfl, fun hh => ?_⟩⟩
    rcases hh with ⟨h, -⟩ | ⟨h, -⟩
    · exact e0 h
    · omega
end YQR
