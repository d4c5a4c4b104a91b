/-! statements: what they leave, frames, the reference's open ends, the class after a fault -/
section YSA
variable {F n m p q t V L T : Nat} {v : Nat → Nat}
/-- the texts' rows once more, not by definition: simp then leaves a proof that is quick to check -/
theorem yq_v {α β : Type} (a : α) (k : α → Option β) : zq_v a k = k a := by
  cases h : k a with
  | none => exact h
  | some b => exact h
theorem yq_g {α : Type} (x : Option α) : zq_g true x = x := by
  cases h : x with
  | none => rfl
  | some b => rfl
theorem yq_s {β : Type} (σ : zs_S) (k : zs_S → Option β) : zq_d (some σ) k = k σ := by
  cases h : k σ with
  | none => exact h
  | some b => exact h
theorem yq_c {α β : Type} (a : α) (σ : zs_S) (k : α → zs_S → Option β) : zq_c (some (a, σ)) k = k a σ := by
  cases h : k a σ with
  | none => exact h
  | some b => exact h
/-- coarse frames: all that a parser may change -/
def ygC (p : Nat) (σ σ' : zs_S) : Prop := (∀ o k, ¬ (o = 7 ∨ o = 8 ∨ o = 9) → ¬ (p ≤ o ∧ o < p + 59) → zs_i σ' o k = zs_i σ o k ∧ zs_r σ' o k = zs_r σ o k ∧ zs_l σ' o k = zs_l σ o k) ∧ zs_r σ' 7 7 = zs_r σ 7 7 ∧ zs_r σ' 7 4 = zs_r σ 7 4
def ygM (q : Nat) (τ τ' : zs_S) : Prop := (∀ o k, ¬ (o = 1 ∧ 6 ≤ k ∧ k ≤ 16) → o ≠ 57 → ¬ (q ≤ o ∧ o < q + 27) → zs_i τ' o k = zs_i τ o k) ∧ (∀ o k, ¬ (o = 1 ∧ k = 13) → zs_r τ' o k = zs_r τ o k)
theorem ygC_r (σ : zs_S) : ygC p σ σ := ⟨fun _ _ _ _ => ⟨rfl, rfl, rfl⟩, rfl, rfl⟩
theorem ygM_r (τ : zs_S) : ygM q τ τ := ⟨fun _ _ _ _ _ => rfl, fun _ _ _ => rfl⟩
theorem ygC_t {a b c : zs_S} (h : ygC p a b) (g : ygC p b c) : ygC p a c := ⟨fun o k x y => ⟨(g.1 o k x y).1.trans (h.1 o k x y).1, (g.1 o k x y).2.1.trans (h.1 o k x y).2.1, (g.1 o k x y).2.2.trans (h.1 o k x y).2.2⟩, g.2.1.trans h.2.1, g.2.2.trans h.2.2⟩
theorem ygM_t {a b c : zs_S} (h : ygM q a b) (g : ygM q b c) : ygM q a c := ⟨fun o k x y z => (g.1 o k x y z).trans (h.1 o k x y z), fun o k x => (g.2 o k x).trans (h.2 o k x)⟩
def yKF (p q : Nat) (σ τ σ' τ' : zs_S) : Prop := ygC p σ σ' ∧ ygM q τ τ' ∧ ∃ f, f ≤ 1600 ∧ yK p (nI f) σ' ∧ zs_i τ' 1 11 = nI f
theorem yKF_t {σ τ σ1 τ1 σ2 τ2 : zs_S} (h1 : ygC p σ σ1) (h2 : ygM q τ τ1) (h : yKF p q σ1 τ1 σ2 τ2) : yKF p q σ τ σ2 τ2 := ⟨ygC_t h1 h.1, ygM_t h2 h.2.1, h.2.2⟩
theorem ygC_C {c : Nat} {σ σ' : zs_S} (h : yfC p c σ σ') (hp : yPP p) : ygC p σ σ' := by
  have hp2 := yPP_b hp
  exact ⟨fun o k x y => ⟨h.1 o k (by omega) (by omega) (by omega), h.2.1 o k (by omega) (by omega), h.2.2 o k⟩, h.2.1 7 7 (by omega) (by omega), h.2.1 7 4 (by omega) (by omega)⟩
theorem ygM_M {e : Nat} {τ τ' : zs_S} (h : yfM q e τ τ') : ygM q τ τ' := ⟨fun o k x y z => h.1 o k (by omega) (by omega) (by omega), fun o k _ => h.2 o k⟩
theorem ygM_L {τ τ' : zs_S} (h : ym_L τ τ') : ygM q τ τ' := ⟨fun o k x y z => h.1 o k (by omega), fun o k _ => h.2 o k⟩
theorem yKF_X {c e : Nat} {σ τ σ' τ' : zs_S} (hp : yPP p) (h : yXF p q c e σ τ σ' τ') : yKF p q σ τ σ' τ' := by
  obtain ⟨⟨h1, h2⟩, f, c', h3, h4, h5, -⟩ := h
  exact ⟨ygC_C h1 hp, ygM_M h2, f, h5, h3, h4⟩
/-- fine frames: statements from s on -/
def yfS (p s c : Nat) (σ σ' : zs_S) : Prop := (∀ o k, ¬ (o = 7 ∧ 5 ≤ k) → ¬ (o = p ∧ k = 3) → ¬ (p + 5 + s ≤ o ∧ o < p + 55) → ¬ (o = p + 55 ∧ k = 3) → ¬ (o = p + 57 ∧ c ≤ k) → zs_i σ' o k = zs_i σ o k) ∧ (∀ o k, ¬ (o = 7 ∧ k = 6) → ¬ (p + 5 + s ≤ o ∧ o < p + 55) → ¬ (o = p + 56 ∧ c ≤ k) → zs_r σ' o k = zs_r σ o k) ∧ (∀ o k, zs_l σ' o k = zs_l σ o k)
def yfT (q s e : Nat) (τ τ' : zs_S) : Prop := (∀ o k, ¬ (o = 1 ∧ 6 ≤ k ∧ k ≤ 16) → ¬ (o = q ∧ (k = 6 ∨ k = 12)) → ¬ (o = q + 9 ∨ o = q + 13 ∨ o = 57) → ¬ ((o = q + 10 ∨ o = q + 11 ∨ o = q + 12) ∧ s ≤ k) → ¬ (o = q + 14 ∧ e ≤ k) → zs_i τ' o k = zs_i τ o k) ∧ (∀ o k, zs_r τ' o k = zs_r τ o k)
theorem yfS_r (s c : Nat) (σ : zs_S) : yfS p s c σ σ := ⟨fun _ _ _ _ _ _ _ => rfl, fun _ _ _ _ _ => rfl, fun _ _ => rfl⟩
theorem yfT_r (s e : Nat) (τ : zs_S) : yfT q s e τ τ := ⟨fun _ _ _ _ _ _ _ => rfl, fun _ _ => rfl⟩
theorem yfS_t {s s' c c' : Nat} {a b d : zs_S} (h : yfS p s c a b) (g : yfS p s' c' b d) (hs : s ≤ s') (hc : c ≤ c') : yfS p s c a d :=
  ⟨fun o k x y z w u => (g.1 o k x y (by omega) w (by omega)).trans (h.1 o k x y z w u), fun o k x y z => (g.2.1 o k x (by omega) (by omega)).trans (h.2.1 o k x y z), fun o k => (g.2.2 o k).trans (h.2.2 o k)⟩
theorem yfT_t {s s' e e' : Nat} {a b d : zs_S} (h : yfT q s e a b) (g : yfT q s' e' b d) (hs : s ≤ s') (he : e ≤ e') : yfT q s e a d :=
  ⟨fun o k x y z w u => (g.1 o k x y z (by omega) (by omega)).trans (h.1 o k x y z w u), fun o k => (g.2 o k).trans (h.2 o k)⟩
theorem yfS_C {s c : Nat} {σ σ' : zs_S} (h : yfC p c σ σ') : yfS p s c σ σ' := ⟨fun o k x _ _ w u => h.1 o k x w u, fun o k x _ z => h.2.1 o k x z, h.2.2⟩
theorem yfT_M {s e : Nat} {τ τ' : zs_S} (h : yfM q e τ τ') : yfT q s e τ τ' := ⟨fun o k x y _ _ u => h.1 o k (by omega) (by omega) u, h.2⟩
theorem yfS_W {s c : Nat} {σ σ' : zs_S} (hs : s < 50) (h : yfW p c s σ σ') : yfS p s c σ σ' := ⟨fun o k x y z w u => h.1 o k x w u (by omega), fun o k x _ z => h.2.1 o k x z, h.2.2⟩
theorem yfT_V {s e : Nat} {τ τ' : zs_S} (h : yfV q e s τ τ') : yfT q s e τ τ' := ⟨fun o k x y z w u => h.1 o k (by omega) (by omega) u (by omega), h.2⟩
theorem ygC_S {s c : Nat} {σ σ' : zs_S} (hp : yPP p) (h : yfS p s c σ σ') : ygC p σ σ' := by
  have hp2 := yPP_b hp
  exact ⟨fun o k x y => ⟨h.1 o k (by omega) (by omega) (by omega) (by omega) (by omega), h.2.1 o k (by omega) (by omega) (by omega), h.2.2 o k⟩, h.2.1 7 7 (by omega) (by omega) (by omega), h.2.1 7 4 (by omega) (by omega) (by omega)⟩
theorem ygM_T {s e : Nat} {τ τ' : zs_S} (h : yfT q s e τ τ') : ygM q τ τ' := ⟨fun o k x y z => h.1 o k x (by omega) (by omega) (by omega) (by omega), fun o k _ => h.2 o k⟩
/-- one statement, both sides; its cells lie below cb and eb -/
def yST (σ τ : zs_S) (p q t V L T cb eb x : Nat) : Prop := ∃ k, k ≤ 9 ∧ zs_r σ (p + 5 + x) 0 = 1100 + k ∧ zs_i τ (q + 10) x = nI k ∧ (k = 0 → ∃ d, zs_i σ (p + 5 + x) 2 = nI d ∧ ((d < V ∧ zs_i τ (q + 11) x = nI d) ∨ (∃ y, y < T ∧ d = 20 + 3 * t + y ∧ zs_i τ (q + 11) x = nI (8 + y))) ∧ ∃ c c' e e' l, c' ≤ cb ∧ e' ≤ eb ∧ yEx σ τ p q t V T x c c' e e' l ∧ zs_i σ (p + 5 + x) 8 = yu1 (l.foldl yu1 0) (1002, nI d)) ∧ ((1 ≤ k ∧ k ≤ 5) → ∃ y, y < L ∧ zs_i σ (p + 5 + x) 2 = nI (8 + y) ∧ zs_i τ (q + 11) x = nI y ∧ zs_i σ (p + 5 + x) 8 = 0) ∧ ((6 ≤ k ∧ k ≤ 8) → ∃ c c' e e' l, c' ≤ cb ∧ e' ≤ eb ∧ yEx σ τ p q t V T x c c' e e' l ∧ zs_i σ (p + 5 + x) 8 = l.foldl yu1 0) ∧ (k = 9 → zs_i σ (p + 5 + x) 8 = 0)
theorem yEx_F {x cb eb c c' e e' : Nat} {l : List (Nat × Int32)} {σ τ σ' τ' : zs_S} (h : yEx σ τ p q t V T x c c' e e' l) (hc : c' ≤ cb) (he : e' ≤ eb) (ho : ∀ k, k = 3 ∨ k = 4 → zs_i σ' (p + 5 + x) k = zs_i σ (p + 5 + x) k) (h7 : ∀ k, k < cb → zs_r σ' (p + 56) k = zs_r σ (p + 56) k ∧ zs_i σ' (p + 57) k = zs_i σ (p + 57) k) (ht : zs_i τ' (q + 12) x = zs_i τ (q + 12) x) (h14 : ∀ k, k < eb → zs_i τ' (q + 14) k = zs_i τ (q + 14) k) : yEx σ' τ' p q t V T x c c' e e' l := by
  obtain ⟨⟨a1, a2, a3, a4, a5⟩, b1, b2, b3, b4⟩ := h
  exact ⟨⟨(ho 3 (Or.inl rfl)).trans a1, (ho 4 (Or.inr rfl)).trans a2, ht.trans a3, a4, a5⟩, yCl_F b1 (fun k k1 k2 => h7 k (by omega)), yRw_F b2 (fun k k1 k2 => h14 k (by omega)), b3, b4⟩
theorem yST_F {x cb eb cb' eb' : Nat} {σ τ σ' τ' : zs_S} (h : yST σ τ p q t V L T cb eb x) (hc : cb ≤ cb') (he : eb ≤ eb') (ho : ∀ k, k = 2 ∨ k = 3 ∨ k = 4 ∨ k = 8 → zs_i σ' (p + 5 + x) k = zs_i σ (p + 5 + x) k) (hr : zs_r σ' (p + 5 + x) 0 = zs_r σ (p + 5 + x) 0) (h7 : ∀ k, k < cb → zs_r σ' (p + 56) k = zs_r σ (p + 56) k ∧ zs_i σ' (p + 57) k = zs_i σ (p + 57) k) (ht : ∀ o, o = q + 10 ∨ o = q + 11 ∨ o = q + 12 → zs_i τ' o x = zs_i τ o x) (h14 : ∀ k, k < eb → zs_i τ' (q + 14) k = zs_i τ (q + 14) k) : yST σ' τ' p q t V L T cb' eb' x := by
  obtain ⟨k, a1, a2, a3, a4, a5, a6, a7⟩ := h
  refine ⟨k, a1, hr.trans a2, (ht _ (Or.inl rfl)).trans a3, fun hk => ?_, fun hk => ?_, fun hk => ?_, fun hk => (ho 8 (by omega)).trans (a7 hk)⟩
  · obtain ⟨d, b1, b2, c, c', e, e', l, b3, b4, b5, b6⟩ := a4 hk
    refine ⟨d, (ho 2 (by omega)).trans b1, ?_, c, c', e, e', l, by omega, by omega, yEx_F b5 b3 b4 (fun k hk => ho k (by omega)) h7 (ht _ (by omega)) h14, (ho 8 (by omega)).trans b6⟩
    rcases b2 with ⟨b2, b7⟩ | ⟨y, b2, b7, b8⟩
    · exact Or.inl ⟨b2, (ht _ (by omega)).trans b7⟩
    · exact Or.inr ⟨y, b2, b7, (ht _ (by omega)).trans b8⟩
  · obtain ⟨y, b1, b2, b3, b4⟩ := a5 hk
    exact ⟨y, b1, (ho 2 (by omega)).trans b2, (ht _ (by omega)).trans b3, (ho 8 (by omega)).trans b4⟩
  · obtain ⟨c, c', e, e', l, b3, b4, b5, b6⟩ := a6 hk
    exact ⟨c, c', e, e', l, by omega, by omega, yEx_F b5 b3 b4 (fun k hk => ho k (by omega)) h7 (ht _ (by omega)) h14, (ho 8 (by omega)).trans b6⟩
theorem yST_S {x s cb eb : Nat} {σ τ σ' τ' : zs_S} (h : yST σ τ p q t V L T cb eb x) (hx : x < s) (hs : s ≤ 50) (hf : yfS p s cb σ σ') (hg : yfT q s eb τ τ') (hp : yPP p) (hq : yQQ q) : yST σ' τ' p q t V L T cb eb x := by
  have hp2 := yPP_b hp
  have hq2 := yQQ_b hq
  exact yST_F h (Nat.le_refl _) (Nat.le_refl _) (fun k _ => hf.1 _ _ (by omega) (by omega) (by omega) (by omega) (by omega)) (hf.2.1 _ _ (by omega) (by omega) (by omega)) (fun k hk => ⟨hf.2.1 _ _ (by omega) (by omega) (by omega), hf.1 _ _ (by omega) (by omega) (by omega) (by omega) (by omega)⟩) (fun o ho => hg.1 _ _ (by omega) (by omega) (by omega) (by omega) (by omega)) (fun k hk => hg.1 _ _ (by omega) (by omega) (by omega) (by omega) (by omega))
theorem yST_m {x cb eb cb' eb' : Nat} {σ τ : zs_S} (h : yST σ τ p q t V L T cb eb x) (hc : cb ≤ cb') (he : eb ≤ eb') : yST σ τ p q t V L T cb' eb' x := yST_F h hc he (fun _ _ => rfl) rfl (fun _ _ => ⟨rfl, rfl⟩) (fun _ _ => rfl) (fun _ _ => rfl)
/-- where a statement leads: the class's equations -/
def yBh (σ : zs_S) (p : Nat) (par K : Int32) (g : Nat → Nat → Int32) (pr : Int32) : Int32 := if pr = par then K else if zs_r σ (p + 5 + pr.toNatClampNeg) 0 = 1108 then pr else g pr.toNatClampNeg 0
def yE12 (σ : zs_S) (p : Nat) (g : Nat → Nat → Int32) (x : Nat) : Prop := g x 1 = (if zs_i σ (p + 5 + x) 5 = -2 then (if zs_r σ (p + 5 + x) 0 = 1108 then nI x else g x 0) else zs_i σ (p + 5 + x) 5) ∧ g x 2 = (if zs_i σ (p + 5 + x) 6 = -2 then g x 0 else zs_i σ (p + 5 + x) 6)
def yEq (σ : zs_S) (p : Nat) (par K : Int32) (g : Nat → Nat → Int32) (lo hi : Nat) : Prop := ∀ x, lo ≤ x → x < hi → g x 0 = (if zs_i σ (p + 5 + x) 7 = -2 then yBh σ p par K g (zs_i σ (p + 5 + x) 1) else zs_i σ (p + 5 + x) 7) ∧ yE12 σ p g x
/-- the class's pointers stay in the block -/
def yIn (y : Int32) (lo hi : Nat) : Prop := y = -2 ∨ ∃ z, lo ≤ z ∧ z < hi ∧ y = nI z
def yD2 (σ : zs_S) (p : Nat) (par : Int32) (lo hi x : Nat) : Prop := (zs_i σ (p + 5 + x) 1 = par ∨ ∃ y, lo ≤ y ∧ y < x ∧ zs_i σ (p + 5 + x) 1 = nI y) ∧ yIn (zs_i σ (p + 5 + x) 5) lo hi ∧ yIn (zs_i σ (p + 5 + x) 6) lo hi ∧ yIn (zs_i σ (p + 5 + x) 7) lo hi
theorem yIn_m {y : Int32} {lo hi lo' hi' : Nat} (h : yIn y lo hi) (h1 : lo' ≤ lo) (h2 : hi ≤ hi') : yIn y lo' hi' := by
  rcases h with h | ⟨z, a, b, c⟩
  · exact Or.inl h
  · exact Or.inr ⟨z, by omega, by omega, c⟩
/-- which pointers a kind has -/
def yVl (k w : Nat) : Prop := (w = 0 ∧ k ≠ 1107 ∧ k ≠ 1108 ∧ k ≠ 1109) ∨ ((w = 1 ∨ w = 2) ∧ (k = 1107 ∨ k = 1108))
/-- pointers of the statements lo .. hi - 1: those that stand open lead to K -/
def yPn (σ τ : zs_S) (p q : Nat) (K : Int32) (g : Nat → Nat → Int32) (fr op lo hi : Nat) : Prop := (∀ j, fr ≤ j → j < op → ∃ x w, w < 3 ∧ lo ≤ x ∧ x < hi ∧ zs_i τ 57 j = nI (3 * x + w) ∧ g x w = K) ∧ (∀ x w, lo ≤ x → x < hi → w < 3 → yVl (zs_r σ (p + 5 + x) 0) w → (∃ j, fr ≤ j ∧ j < op ∧ zs_i τ 57 j = nI (3 * x + w)) ∨ zs_i τ (q + 13) (3 * x + w) = g x w)
/-- the reference leads open pointers -/
theorem yn_neg : ∀ y, y < 4 → ¬ (0 : Int32) ≤ -1 - nI y ∧ -1 - (-1 - nI y) = nI y := by decide +kernel
theorem yn_neg2 {y k : Nat} (hy : y < 4) (hk : k < 2 ^ 31) : ¬ nI k = -1 - nI y := fun e => (yn_neg y hy).1 (e ▸ nI_pos' hk)
theorem ym_lead {x : Int32} {fr : Nat} (hq : yQQ q) : ∀ d N op τ, op - fr ≤ d → fr ≤ op → op ≤ 200 → d < N → zs_r τ 1 12 = q → zs_i τ 1 16 = nI op → (∀ j, fr ≤ j → j < op → (∃ k, k < 150 ∧ zs_i τ 57 j = nI k) ∨ (∃ y, y < 4 ∧ zs_i τ 57 j = -1 - nI y)) → ∃ τ', zf_M_lead_0 F N (nI fr) x τ = some τ' ∧ zs_i τ' 1 16 = nI fr ∧ (∀ k, k < 150 → (∃ j, fr ≤ j ∧ j < op ∧ zs_i τ 57 j = nI k) → zs_i τ' (q + 13) k = x) ∧ (∀ k, k < 150 → (¬ ∃ j, fr ≤ j ∧ j < op ∧ zs_i τ 57 j = nI k) → zs_i τ' (q + 13) k = zs_i τ (q + 13) k) ∧ (∀ y, y < 4 → (∃ j, fr ≤ j ∧ j < op ∧ zs_i τ 57 j = -1 - nI y) → zs_i τ' (q + 9) y = x) ∧ (∀ y, y < 4 → (¬ ∃ j, fr ≤ j ∧ j < op ∧ zs_i τ 57 j = -1 - nI y) → zs_i τ' (q + 9) y = zs_i τ (q + 9) y) ∧ (∀ o k, ¬ (o = 1 ∧ k = 16) → ¬ o = q + 9 → ¬ o = q + 13 → zs_i τ' o k = zs_i τ o k) ∧ (∀ o k, zs_r τ' o k = zs_r τ o k) := by
  have hq2 := yQQ_b hq
  have base : ∀ N τ, 0 < N → zs_i τ 1 16 = nI fr → fr ≤ 200 → ∃ τ', zf_M_lead_0 F N (nI fr) x τ = some τ' ∧ zs_i τ' 1 16 = nI fr ∧ (∀ k, k < 150 → (∃ j, fr ≤ j ∧ j < fr ∧ zs_i τ 57 j = nI k) → zs_i τ' (q + 13) k = x) ∧ (∀ k, k < 150 → (¬ ∃ j, fr ≤ j ∧ j < fr ∧ zs_i τ 57 j = nI k) → zs_i τ' (q + 13) k = zs_i τ (q + 13) k) ∧ (∀ y, y < 4 → (∃ j, fr ≤ j ∧ j < fr ∧ zs_i τ 57 j = -1 - nI y) → zs_i τ' (q + 9) y = x) ∧ (∀ y, y < 4 → (¬ ∃ j, fr ≤ j ∧ j < fr ∧ zs_i τ 57 j = -1 - nI y) → zs_i τ' (q + 9) y = zs_i τ (q + 9) y) ∧ (∀ o k, ¬ (o = 1 ∧ k = 16) → ¬ o = q + 9 → ¬ o = q + 13 → zs_i τ' o k = zs_i τ o k) ∧ (∀ o k, zs_r τ' o k = zs_r τ o k) := by
    intro N τ hN ho hfr
    obtain ⟨N, rfl⟩ : ∃ q, N = q + 1 := ⟨N - 1, by omega⟩
    refine ⟨τ, ?_, ho, fun k _ ⟨j, a, b, _⟩ => by omega, fun k _ _ => rfl, fun y _ ⟨j, a, b, _⟩ => by omega, fun y _ _ => rfl, fun o k _ _ _ => rfl, fun o k => rfl⟩
    rw [zf_M_lead_0, ho, if_pos (nI_le (Nat.le_refl fr) (by omega))]
  intro d
  induction d with
  | zero =>
    intro N op τ h1 h2 h3 h4 hr ho hv
    have : op = fr := by omega
    subst this
    exact base N τ h4 ho h3
  | succ d ih =>
    intro N op τ h1 h2 h3 h4 hr ho hv
    by_cases hof : op = fr
    · subst hof
      exact base N τ (by omega) ho h3
    · obtain ⟨op, rfl⟩ : ∃ q, op = q + 1 := ⟨op - 1, by omega⟩
      obtain ⟨N, rfl⟩ : ∃ q, N = q + 1 := ⟨N - 1, by omega⟩
      have e0 : zs_i (zs_wi τ 1 16 (nI op)) 57 op = zs_i τ 57 op := yt_in _ _ (by omega)
      rcases hv op (by omega) (by omega) with ⟨k0, k1, k2⟩ | ⟨y0, k1, k2⟩
      · have el : zf_M_lead_0 F (N + 1) (nI fr) x τ = zf_M_lead_0 F N (nI fr) x (zs_wi (zs_wi τ 1 16 (nI op)) (q + 13) k0 x) := by
          rw [zf_M_lead_0, ho, if_neg (nI_ge (by omega) (by omega)), nI_pred]
          simp (disch := first | omega | decide) only [yq_v, yt_ie, nI_clamp, yn_b, yq_g, e0, k2]
          rw [if_pos (nI_pos' (by omega))]
          simp (disch := first | omega | decide) only [yq_v, yt_ri, hr, zq_qr, yv_k hq, yq_g, yv_r10 hq, yv_k13 hq, yv_z13 hq, yn_b, nI_clamp]
        have e1 : ∀ j, zs_i (zs_wi (zs_wi τ 1 16 (nI op)) (q + 13) k0 x) 57 j = zs_i τ 57 j := fun j => by rw [yt_in _ _ (by omega), yt_in _ _ (by omega)]
        obtain ⟨τ', f1, f2, f3, f4, f5, f6, f7, f8⟩ := ih N op (zs_wi (zs_wi τ 1 16 (nI op)) (q + 13) k0 x) (by omega) (by omega) (by omega) (by omega) hr (by rw [yt_in _ _ (by omega), yt_ie]) (fun j j1 j2 => by rw [e1]; exact hv j j1 (by omega))
        refine ⟨τ', el.trans f1, f2, fun k kk hj => ?_, fun k kk hj => ?_, fun y yy hj => ?_, fun y yy hj => ?_, fun o k x1 x2 x3 => ?_, fun o k => (f8 o k).trans rfl⟩
        · by_cases hh : ∃ j, fr ≤ j ∧ j < op ∧ zs_i τ 57 j = nI k
          · obtain ⟨j, j1, j2, j3⟩ := hh
            exact f3 k kk ⟨j, j1, j2, by rw [e1]; exact j3⟩
          · rw [f4 k kk (fun ⟨j, j1, j2, j3⟩ => hh ⟨j, j1, j2, by rw [e1] at j3; exact j3⟩)]
            obtain ⟨j, j1, j2, j3⟩ := hj
            have : j = op := by
              by_cases hjo : j = op
              · exact hjo
              · exact absurd ⟨j, j1, by omega, j3⟩ hh
            subst this
            have : k0 = k := (nI_eq (by omega) (by omega)).mp (k2.symm.trans j3)
            subst this
            exact yt_ie _ _ _ _
        · rw [f4 k kk (fun ⟨j, j1, j2, j3⟩ => hj ⟨j, j1, by omega, by rw [e1] at j3; exact j3⟩)]
          have : ¬ k = k0 := fun e => hj ⟨op, by omega, by omega, by rw [k2, e]⟩
          rw [yt_in _ _ (by omega), yt_in _ _ (by omega)]
        · obtain ⟨j, j1, j2, j3⟩ := hj
          have : ¬ j = op := fun e => by
            subst e
            exact yn_neg2 yy (by omega) (k2.symm.trans j3)
          exact f5 y yy ⟨j, j1, by omega, by rw [e1]; exact j3⟩
        · rw [f6 y yy (fun ⟨j, j1, j2, j3⟩ => hj ⟨j, j1, by omega, by rw [e1] at j3; exact j3⟩), yt_in _ _ (by omega), yt_in _ _ (by omega)]
        · rw [f7 o k x1 x2 x3, yt_in _ _ (by omega), yt_in _ _ (by omega)]
      · have el : zf_M_lead_0 F (N + 1) (nI fr) x τ = zf_M_lead_0 F N (nI fr) x (zs_wi (zs_wi τ 1 16 (nI op)) (q + 9) y0 x) := by
          rw [zf_M_lead_0, ho, if_neg (nI_ge (by omega) (by omega)), nI_pred]
          simp (disch := first | omega | decide) only [yq_v, yt_ie, nI_clamp, yn_b, yq_g, e0, k2]
          rw [if_neg (yn_neg y0 k1).1]
          simp (disch := first | omega | decide) only [yq_v, yt_ri, hr, zq_qr, yv_k hq, yq_g, yv_r4 hq, yv_k9 hq, yv_z9 hq, (yn_neg y0 k1).2, yn_b, nI_clamp]
        have e1 : ∀ j, zs_i (zs_wi (zs_wi τ 1 16 (nI op)) (q + 9) y0 x) 57 j = zs_i τ 57 j := fun j => by rw [yt_in _ _ (by omega), yt_in _ _ (by omega)]
        obtain ⟨τ', f1, f2, f3, f4, f5, f6, f7, f8⟩ := ih N op (zs_wi (zs_wi τ 1 16 (nI op)) (q + 9) y0 x) (by omega) (by omega) (by omega) (by omega) hr (by rw [yt_in _ _ (by omega), yt_ie]) (fun j j1 j2 => by rw [e1]; exact hv j j1 (by omega))
        have inj : ∀ y, y < 4 → -1 - nI y0 = -1 - nI y → y0 = y := fun y yy e => by
          have := (yn_neg y0 k1).2
          rw [e, (yn_neg y yy).2] at this
          exact ((nI_eq (by omega) (by omega)).mp this).symm
        refine ⟨τ', el.trans f1, f2, fun k kk hj => ?_, fun k kk hj => ?_, fun y yy hj => ?_, fun y yy hj => ?_, fun o k x1 x2 x3 => ?_, fun o k => (f8 o k).trans rfl⟩
        · obtain ⟨j, j1, j2, j3⟩ := hj
          have : ¬ j = op := fun e => by
            subst e
            exact yn_neg2 k1 (by omega) (j3.symm.trans k2)
          exact f3 k kk ⟨j, j1, by omega, by rw [e1]; exact j3⟩
        · rw [f4 k kk (fun ⟨j, j1, j2, j3⟩ => hj ⟨j, j1, by omega, by rw [e1] at j3; exact j3⟩), yt_in _ _ (by omega), yt_in _ _ (by omega)]
        · by_cases hh : ∃ j, fr ≤ j ∧ j < op ∧ zs_i τ 57 j = -1 - nI y
          · obtain ⟨j, j1, j2, j3⟩ := hh
            exact f5 y yy ⟨j, j1, j2, by rw [e1]; exact j3⟩
          · rw [f6 y yy (fun ⟨j, j1, j2, j3⟩ => hh ⟨j, j1, j2, by rw [e1] at j3; exact j3⟩)]
            obtain ⟨j, j1, j2, j3⟩ := hj
            have : j = op := by
              by_cases hjo : j = op
              · exact hjo
              · exact absurd ⟨j, j1, by omega, j3⟩ hh
            subst this
            have := inj y yy (k2.symm.trans j3)
            subst this
            exact yt_ie _ _ _ _
        · rw [f6 y yy (fun ⟨j, j1, j2, j3⟩ => hj ⟨j, j1, by omega, by rw [e1] at j3; exact j3⟩)]
          have : ¬ y = y0 := fun e => hj ⟨op, by omega, by omega, by rw [k2, e]⟩
          rw [yt_in _ _ (by omega), yt_in _ _ (by omega)]
        · rw [f7 o k x1 x2 x3, yt_in _ _ (by omega), yt_in _ _ (by omega)]
/-- the class after a fault -/
theorem yk_atom {f : Int32} {N : Nat} {σ : zs_S} {d : Nat} (h : yK p f σ) (hd : d < 8) : zf_Parser_readAtom F (N + 1) (nI d) σ = some σ := by
  have h5 := h.2.2.2.2
  rw [zf_Parser_readAtom]
  unfold zf_Parser_readAtom_b zf_Parser_readAtom_b_127
  rw [h5, zq_qr (by decide), yn_12 (by decide), zq_gr, if_neg (by decide), zq_gr, if_neg (by decide), show (8 : Int32) = nI 8 from rfl, if_neg (fun e => by have := (nI_eq (by omega) (by omega)).mp e; omega), zq_gr, if_neg (by decide), if_neg (by decide), if_neg (by decide), yy_kfail h]
  rfl
theorem yk_lev {f : Int32} {kA : Int32 → zs_S → Option zs_S} {x2 : Int32} {σ : zs_S} (h : yK p f σ) (hF : 0 < F) (hA : kA x2 σ = some σ) : ∀ N l, l ≤ 5 → 5 - l < N → zf_Parser_readLevel kA F N (nI l) x2 σ = some σ := by
  intro N
  induction N with
  | zero => intro l _ h; omega
  | succ N ih =>
    intro l hl hN
    rw [zf_Parser_readLevel]
    unfold zf_Parser_readLevel_b zf_Parser_readLevel_b_31
    by_cases h5 : l = 5
    · subst h5
      rw [if_pos (by decide), hA]
      rfl
    · rw [show (5 : Int32) = nI 5 from rfl, if_neg (fun e => h5 ((nI_eq (by omega) (by omega)).mp e)), nI_1, ih (l + 1) (by omega) (by omega), zq_dr, yx_kloop h.2.2.2.2 hF (by omega), yx_kloop h.2.2.2.2 hF (by omega)]
      by_cases h2 : nI l = 2
      · rw [if_pos h2]
      · rw [if_neg h2]
theorem yk_expr {f : Int32} {σ : zs_S} {s0 : Nat} (h : yK p f σ) (hp : yPP p) (hF : 0 < F) (hs : s0 < 50) : ∃ σ', zf_Parser_readExpression F (p + 5 + s0) σ = some σ' ∧ yK p f σ' ∧ ygC p σ σ' := by
  have hp2 := yPP_b hp
  obtain ⟨h1, h2, h3, h4, h5⟩ := h
  have hk : yK p f (zs_wi (zs_wi σ 7 10 0) (p + 5 + s0) 3 (zs_i (zs_wi σ 7 10 0) (p + 55) 3)) := ⟨h1, h2, by rw [yt_in _ _ (by omega), yt_in _ _ (by omega)]; exact h3, h4, h5⟩
  have e1 : zf_Parser_readLevel (zf_Parser_readAtom F 10) F 7 0 0 (zs_wi (zs_wi σ 7 10 0) (p + 5 + s0) 3 (zs_i (zs_wi σ 7 10 0) (p + 55) 3)) = _ := yk_lev hk hF (yk_atom hk (d := 0) (by decide)) 7 0 (by decide) (by decide)
  refine ⟨zs_wi (zs_wi (zs_wi (zs_wi σ 7 10 0) (p + 5 + s0) 3 (zs_i (zs_wi σ 7 10 0) (p + 55) 3)) (p + 5 + s0) 4 (zs_i (zs_wi (zs_wi σ 7 10 0) (p + 5 + s0) 3 (zs_i (zs_wi σ 7 10 0) (p + 55) 3)) (p + 55) 3)) (p + 5 + s0) 8 (zs_i (zs_wi (zs_wi (zs_wi σ 7 10 0) (p + 5 + s0) 3 (zs_i (zs_wi σ 7 10 0) (p + 55) 3)) (p + 5 + s0) 4 (zs_i (zs_wi (zs_wi σ 7 10 0) (p + 5 + s0) 3 (zs_i (zs_wi σ 7 10 0) (p + 55) 3)) (p + 55) 3)) 7 10), ?_, ?_, ?_⟩
  · unfold zf_Parser_readExpression
    simp (disch := omega) only [zq_v, yt_ri, h2, zq_qr, yp_k hp, zq_gr, yp_r8 hp, yp_k55 hp, yp_sk hp hs, e1, zq_dr]
  · exact ⟨h1, h2, by simp (disch := omega) only [yt_in, yt_ie, yt_ir, yt_il, yt_ri, yt_rl, yt_rn, yt_re, yt_li, yt_lr, yt_ln, yt_le]; exact h3, h4, h5⟩
  · exact ⟨fun o k x y => ⟨by simp (disch := omega) only [yt_in, yt_ie, yt_ir, yt_il, yt_ri, yt_rl, yt_rn, yt_re, yt_li, yt_lr, yt_ln, yt_le], rfl, rfl⟩, rfl, rfl⟩
theorem yk_stats {f : Int32} {N : Nat} {σ : zs_S} {x1 x2 : Int32} (h : yK p f σ) (hF : 0 < F) : zf_Parser_readStatements F (N + 1) x1 x2 σ = some σ := by
  obtain ⟨G, hG⟩ : ∃ G, F = G + 1 := ⟨F - 1, by omega⟩
  have : zf_Parser_readStatements_b_2 (zf_Parser_readStatements F N) F (G + 1) x1 x2 0 σ = some σ := by
    rw [zf_Parser_readStatements_b_2, if_neg (by decide), if_neg (by rw [h.2.2.1]; exact h.2.2.2.1)]
    rfl
  rw [← hG] at this
  rw [zf_Parser_readStatements]
  unfold zf_Parser_readStatements_b
  exact this
theorem yk_block {f : Int32} {N d : Nat} {σ : zs_S} {x1 x2 : Int32} (h : yK p f σ) (hp : yPP p) (hF : 0 < F) : zf_Parser_readBlock (zf_Parser_readStatements F (N + 1)) F x1 x2 σ = some (-2, σ) := by
  have hp2 := yPP_b hp
  unfold zf_Parser_readBlock zf_Parser_readBlock_60
  by_cases h6 : x2 = 6
  · rw [if_pos h6, yy_kfail h]
    rfl
  · rw [if_neg h6, yy_kexp h (by decide) (by decide), zq_dr, h.2.1, zq_qr (by omega), yp_k hp, zq_gr]
    rw [yq_v, yk_stats h hF, zq_dr, yy_kexp h (by decide) (by decide), zq_dr, h.2.1, zq_qr (by omega), yp_k hp, zq_gr, if_pos (Int32.le_refl _)]
theorem yk_208 {f : Int32} {s0 : Nat} {σ : zs_S} {kS : Int32 → Int32 → zs_S → Option zs_S} (h : yK p f σ) (hp : yPP p) (hs : s0 < 50) : ∃ σ', zf_Parser_readStatement_208 kS F (p + 5 + s0) σ = some σ' ∧ yK p f σ' ∧ ygC p σ σ' := by
  have hp2 := yPP_b hp
  obtain ⟨h1, h2, h3, h4, h5⟩ := h
  refine ⟨zs_wi σ (p + 5 + s0) 7 (zs_i σ p 3), ?_, ⟨h1, h2, by rw [yt_in _ _ (by omega)]; exact h3, h4, h5⟩, ⟨fun o k x y => ⟨by rw [yt_in _ _ (by omega)], rfl, rfl⟩, rfl, rfl⟩⟩
  unfold zf_Parser_readStatement_208 zf_Parser_readStatement_231
  rw [h5, zq_qr (by decide), yn_12 (by decide), zq_gr, if_neg (by decide), h2, zq_qr (by omega), yp_k hp, zq_gr, yp_sk hp hs, zq_gr]
  rfl
end YSA
