/-! stage 2: text against text; first a small logic for the texts, reads over writes, numbers -/
section ZWA
def yw {α : Type} (x : Option α) (Q : α → Prop) : Prop := match x with
  | none => False
  | some a => Q a
theorem yw_e {α : Type} {x : Option α} {Q : α → Prop} (h : yw x Q) : ∃ a, x = some a ∧ Q a := by
  cases x with
  | none => exact absurd h id
  | some a => exact ⟨a, rfl, h⟩
theorem yw_i {α : Type} {x : Option α} {Q : α → Prop} {a : α} (e : x = some a) (h : Q a) : yw x Q := by
  subst e
  exact h
theorem yw_m {α : Type} {x : Option α} {P Q : α → Prop} (h : yw x P) (f : ∀ a, P a → Q a) : yw x Q := by
  obtain ⟨a, e, h⟩ := yw_e h
  exact yw_i e (f a h)
theorem yw_g {α : Type} {b : Bool} {x : Option α} {Q : α → Prop} (e : b = true) (h : yw x Q) : yw (zq_g b x) Q := by
  subst e
  exact h
theorem yw_q {α : Type} {q q' : Nat} {k : Nat → Option α} {Q : α → Prop} (e : q = q') (hq : q' ≠ 0) (h : yw (k q') Q) : yw (zq_q q k) Q := by
  subst e
  rw [zq_qr hq]
  exact h
theorem yw_d {α : Type} {x : Option zs_S} {k : zs_S → Option α} {P : zs_S → Prop} {Q : α → Prop} (h : yw x P) (f : ∀ σ, P σ → yw (k σ) Q) : yw (zq_d x k) Q := by
  obtain ⟨a, e, h⟩ := yw_e h
  rw [e]
  exact f a h
theorem yw_c {α β : Type} {x : Option (β × zs_S)} {k : β → zs_S → Option α} {P : β → zs_S → Prop} {Q : α → Prop} (h : yw x (fun r => P r.1 r.2)) (f : ∀ b σ, P b σ → yw (k b σ) Q) : yw (zq_c x k) Q := by
  obtain ⟨⟨b, σ⟩, e, h⟩ := yw_e h
  rw [e]
  exact f b σ h
theorem yw_p {α : Type} {c : Prop} {dc : Decidable c} {x y : Option α} {Q : α → Prop} (e : c) (h : yw x Q) : yw (if c then x else y) Q := by
  rw [if_pos e]
  exact h
theorem yw_n {α : Type} {c : Prop} {dc : Decidable c} {x y : Option α} {Q : α → Prop} (e : ¬ c) (h : yw y Q) : yw (if c then x else y) Q := by
  rw [if_neg e]
  exact h
def yr {α β : Type} (x : Option α) (y : Option β) (Q : α → β → Prop) : Prop := ∃ a b, x = some a ∧ y = some b ∧ Q a b
theorem yr_i {α β : Type} {x : Option α} {y : Option β} {Q : α → β → Prop} {a : α} {b : β} (e : x = some a) (f : y = some b) (h : Q a b) : yr x y Q := ⟨a, b, e, f, h⟩
theorem yr_m {α β : Type} {x : Option α} {y : Option β} {P Q : α → β → Prop} (h : yr x y P) (f : ∀ a b, P a b → Q a b) : yr x y Q := by
  obtain ⟨a, b, e1, e2, h⟩ := h
  exact ⟨a, b, e1, e2, f a b h⟩
theorem yr_w {α β : Type} {x : Option α} {y : Option β} {Q : α → β → Prop} (h : yw x (fun a => yw y (fun b => Q a b))) : yr x y Q := by
  obtain ⟨a, e1, h⟩ := yw_e h
  obtain ⟨b, e2, h⟩ := yw_e h
  exact ⟨a, b, e1, e2, h⟩
theorem yr_lg {α β : Type} {b : Bool} {x : Option α} {y : Option β} {Q : α → β → Prop} (e : b = true) (h : yr x y Q) : yr (zq_g b x) y Q := by
  subst e
  exact h
theorem yr_rg {α β : Type} {b : Bool} {x : Option α} {y : Option β} {Q : α → β → Prop} (e : b = true) (h : yr x y Q) : yr x (zq_g b y) Q := by
  subst e
  exact h
theorem yr_lq {α β : Type} {q q' : Nat} {k : Nat → Option α} {y : Option β} {Q : α → β → Prop} (e : q = q') (hq : q' ≠ 0) (h : yr (k q') y Q) : yr (zq_q q k) y Q := by
  subst e
  rw [zq_qr hq]
  exact h
theorem yr_rq {α β : Type} {q q' : Nat} {k : Nat → Option β} {x : Option α} {Q : α → β → Prop} (e : q = q') (hq : q' ≠ 0) (h : yr x (k q') Q) : yr x (zq_q q k) Q := by
  subst e
  rw [zq_qr hq]
  exact h
theorem yr_ld {α β : Type} {x : Option zs_S} {k : zs_S → Option α} {y : Option β} {P : zs_S → Prop} {Q : α → β → Prop} (h : yw x P) (f : ∀ σ, P σ → yr (k σ) y Q) : yr (zq_d x k) y Q := by
  obtain ⟨a, e, h⟩ := yw_e h
  rw [e]
  exact f a h
theorem yr_rd {α β : Type} {y : Option zs_S} {k : zs_S → Option β} {x : Option α} {P : zs_S → Prop} {Q : α → β → Prop} (h : yw y P) (f : ∀ σ, P σ → yr x (k σ) Q) : yr x (zq_d y k) Q := by
  obtain ⟨a, e, h⟩ := yw_e h
  rw [e]
  exact f a h
theorem yr_lc {α β γ : Type} {x : Option (γ × zs_S)} {k : γ → zs_S → Option α} {y : Option β} {P : γ → zs_S → Prop} {Q : α → β → Prop} (h : yw x (fun r => P r.1 r.2)) (f : ∀ b σ, P b σ → yr (k b σ) y Q) : yr (zq_c x k) y Q := by
  obtain ⟨⟨b, σ⟩, e, h⟩ := yw_e h
  rw [e]
  exact f b σ h
theorem yr_rc {α β γ : Type} {y : Option (γ × zs_S)} {k : γ → zs_S → Option β} {x : Option α} {P : γ → zs_S → Prop} {Q : α → β → Prop} (h : yw y (fun r => P r.1 r.2)) (f : ∀ b σ, P b σ → yr x (k b σ) Q) : yr x (zq_c y k) Q := by
  obtain ⟨⟨b, σ⟩, e, h⟩ := yw_e h
  rw [e]
  exact f b σ h
theorem yr_dc {α β γ : Type} {x : Option zs_S} {y : Option (γ × zs_S)} {k : zs_S → Option α} {k' : γ → zs_S → Option β} {P : zs_S → γ → zs_S → Prop} {Q : α → β → Prop} (h : yr x y (fun a r => P a r.1 r.2)) (f : ∀ σ b τ, P σ b τ → yr (k σ) (k' b τ) Q) : yr (zq_d x k) (zq_c y k') Q := by
  obtain ⟨a, ⟨b, τ⟩, e1, e2, h⟩ := h
  rw [e1, e2]
  exact f a b τ h
theorem yr_cc {α β γ δ : Type} {x : Option (δ × zs_S)} {y : Option (γ × zs_S)} {k : δ → zs_S → Option α} {k' : γ → zs_S → Option β} {P : δ → zs_S → γ → zs_S → Prop} {Q : α → β → Prop} (h : yr x y (fun a r => P a.1 a.2 r.1 r.2)) (f : ∀ a σ b τ, P a σ b τ → yr (k a σ) (k' b τ) Q) : yr (zq_c x k) (zq_c y k') Q := by
  obtain ⟨⟨a, σ⟩, ⟨b, τ⟩, e1, e2, h⟩ := h
  rw [e1, e2]
  exact f a σ b τ h
theorem yt_ii (σ : zs_S) (o k : Nat) (v : Int32) (a b : Nat) : zs_i (zs_wi σ o k v) a b = if a = o ∧ b = k then v else zs_i σ a b := rfl
theorem yt_il (σ : zs_S) (o k : Nat) (v : Int64) (a b : Nat) : zs_i (zs_wl σ o k v) a b = zs_i σ a b := rfl
theorem yt_ir (σ : zs_S) (o k : Nat) (v : Nat) (a b : Nat) : zs_i (zs_wr σ o k v) a b = zs_i σ a b := rfl
theorem yt_ri (σ : zs_S) (o k : Nat) (v : Int32) (a b : Nat) : zs_r (zs_wi σ o k v) a b = zs_r σ a b := rfl
theorem yt_rl (σ : zs_S) (o k : Nat) (v : Int64) (a b : Nat) : zs_r (zs_wl σ o k v) a b = zs_r σ a b := rfl
theorem yt_rr (σ : zs_S) (o k : Nat) (v : Nat) (a b : Nat) : zs_r (zs_wr σ o k v) a b = if a = o ∧ b = k then v else zs_r σ a b := rfl
theorem yt_li (σ : zs_S) (o k : Nat) (v : Int32) (a b : Nat) : zs_l (zs_wi σ o k v) a b = zs_l σ a b := rfl
theorem yt_ll (σ : zs_S) (o k : Nat) (v : Int64) (a b : Nat) : zs_l (zs_wl σ o k v) a b = if a = o ∧ b = k then v else zs_l σ a b := rfl
theorem yt_lr (σ : zs_S) (o k : Nat) (v : Nat) (a b : Nat) : zs_l (zs_wr σ o k v) a b = zs_l σ a b := rfl
theorem yt_ic (σ : zs_S) (a b sp dp n o k : Nat) : zs_i (zs_cp σ a b sp dp n) o k = if o = b then va_cpy (zs_i σ a) (zs_i σ b) sp dp n k else zs_i σ o k := rfl
theorem yt_rc (σ : zs_S) (a b sp dp n o k : Nat) : zs_r (zs_cp σ a b sp dp n) o k = zs_r σ o k := rfl
theorem yt_lc (σ : zs_S) (a b sp dp n o k : Nat) : zs_l (zs_cp σ a b sp dp n) o k = zs_l σ o k := rfl
/-- a write over a write, a write of what stands there -/
theorem yt_ww (σ : zs_S) (o k : Nat) (v w : Int32) : zs_wi (zs_wi σ o k v) o k w = zs_wi σ o k w := by
  unfold zs_wi zs_u
  refine Prod.ext ?_ rfl
  funext a b
  by_cases h : a = o ∧ b = k
  · simp only [h, and_self, if_true]
  · simp only [h, if_false]
theorem yt_ws {σ : zs_S} {o k : Nat} {v : Int32} (e : zs_i σ o k = v) : zs_wi σ o k v = σ := by
  subst e
  unfold zs_wi zs_u zs_i
  refine Prod.ext ?_ rfl
  funext a b
  by_cases h : a = o ∧ b = k
  · simp only [h, and_self, if_true]
  · simp only [h, if_false]
theorem yt_rs {σ : zs_S} {o k v : Nat} (e : zs_r σ o k = v) : zs_wr σ o k v = σ := by
  subst e
  unfold zs_wr zs_u zs_r
  refine Prod.ext rfl (Prod.ext rfl ?_)
  funext a b
  by_cases h : a = o ∧ b = k
  · simp only [h, and_self, if_true]
  · simp only [h, if_false]
/-- numbers -/
theorem yn_l (n : Nat) : (OfNat.ofNat n : Int32) = nI n := rfl
theorem yn_lt {a b : Nat} (ha : a < 2 ^ 31) (hb : b < 2 ^ 31) : (nI a < nI b) = (a < b) := propext (nI_ltI ha hb)
theorem yn_le {a b : Nat} (ha : a < 2 ^ 31) (hb : b < 2 ^ 31) : (nI a ≤ nI b) = (a ≤ b) := propext (nI_leI ha hb)
theorem yn_eq {a b : Nat} (ha : a < 2 ^ 31) (hb : b < 2 ^ 31) : (nI a = nI b) = (a = b) := propext (nI_eq ha hb)
theorem yn_b {n N : Nat} (h : n < N) (hN : N < 2 ^ 31) : zq_b (nI n) N = true := zp_b h hN
/-- a byte as it is kept -/
def yby (v : Nat) : Int32 := (nI v).toInt8.toInt32
theorem yby_and : ∀ v, v < 256 → yby v &&& 255 = nI v := by decide +kernel
theorem yby_pos : ∀ v, v < 128 → yby v = nI v := by decide +kernel
theorem yby_inj : ∀ v, v < 256 → ∀ c, c < 128 → (yby v = nI c ↔ v = c) := by
  intro v hv c hc
  constructor
  · intro h
    have h1 := yby_and v hv
    have h2 := yby_and c (by omega)
    rw [h] at h1
    rw [yby_pos c hc] at h2
    exact ((nI_eq (by omega) (by omega)).mp (h1.symm.trans h2))
  · intro h
    subst h
    exact yby_pos v hc
theorem yby_lt : ∀ v, v < 256 → (yby v < 97 ↔ (v < 97 ∨ 128 ≤ v)) := by decide +kernel
theorem yby_gt : ∀ v, v < 256 → (122 < yby v ↔ (122 < v ∧ v < 128)) := by decide +kernel
theorem yby_dl : ∀ v, v < 256 → (yby v < 48 ↔ (v < 48 ∨ 128 ≤ v)) := by decide +kernel
theorem yby_dg : ∀ v, v < 256 → (57 < yby v ↔ (57 < v ∧ v < 128)) := by decide +kernel
theorem yby_of {x : Int32} (h : x.toInt8.toInt32 = x) : ∃ v, v < 256 ∧ x = yby v := by
  have h0 := Int.emod_nonneg x.toInt (show (256 : Int) ≠ 0 by decide)
  have h1 := Int.emod_lt_of_pos x.toInt (show (0 : Int) < 256 by decide)
  refine ⟨(x.toInt % 256).toNat, by omega, ?_⟩
  unfold yby
  have : (nI (x.toInt % 256).toNat).toInt8 = x.toInt8 := by
    apply Int8.toInt_inj.mp
    rw [Int32.toInt_toInt8, Int32.toInt_toInt8, nI_toInt (by omega), Int.toNat_of_nonneg h0]
    exact Int.emod_bmod x.toInt 256
  rw [this, h]
theorem yby_32 : ∀ v, v < 256 → (yby v = 32 ↔ v = 32) := by decide +kernel
theorem yby_10 : ∀ v, v < 256 → (yby v = 10 ↔ v = 10) := by decide +kernel
theorem yby_123 : ∀ v, v < 256 → (yby v = 123 ↔ v = 123) := by decide +kernel
theorem yby_125 : ∀ v, v < 256 → (yby v = 125 ↔ v = 125) := by decide +kernel
theorem yby_40 : ∀ v, v < 256 → (yby v = 40 ↔ v = 40) := by decide +kernel
theorem yby_41 : ∀ v, v < 256 → (yby v = 41 ↔ v = 41) := by decide +kernel
theorem yby_59 : ∀ v, v < 256 → (yby v = 59 ↔ v = 59) := by decide +kernel
theorem yby_61 : ∀ v, v < 256 → (yby v = 61 ↔ v = 61) := by decide +kernel
theorem yby_43 : ∀ v, v < 256 → (yby v = 43 ↔ v = 43) := by decide +kernel
theorem yby_45 : ∀ v, v < 256 → (yby v = 45 ↔ v = 45) := by decide +kernel
theorem yby_42 : ∀ v, v < 256 → (yby v = 42 ↔ v = 42) := by decide +kernel
theorem yby_33 : ∀ v, v < 256 → (yby v = 33 ↔ v = 33) := by decide +kernel
theorem yby_60 : ∀ v, v < 256 → (yby v = 60 ↔ v = 60) := by decide +kernel
theorem yby_62 : ∀ v, v < 256 → (yby v = 62 ↔ v = 62) := by decide +kernel
theorem yby_124 : ∀ v, v < 256 → (yby v = 124 ↔ v = 124) := by decide +kernel
theorem yby_38 : ∀ v, v < 256 → (yby v = 38 ↔ v = 38) := by decide +kernel
theorem yt_wc (σ : zs_S) {o k o' k' : Nat} (v w : Int32) (h : ¬ (o = o' ∧ k = k')) : zs_wi (zs_wi σ o k v) o' k' w = zs_wi (zs_wi σ o' k' w) o k v := by
  unfold zs_wi zs_u
  refine Prod.ext ?_ rfl
  funext a b
  show (if a = o' ∧ b = k' then w else if a = o ∧ b = k then v else σ.1 a b) = (if a = o ∧ b = k then v else if a = o' ∧ b = k' then w else σ.1 a b)
  by_cases h1 : a = o ∧ b = k
  · rw [if_pos h1, if_pos h1, if_neg (fun h2 => h ⟨h1.1.symm.trans h2.1, h1.2.symm.trans h2.2⟩)]
  · rw [if_neg h1, if_neg h1]
end ZWA
