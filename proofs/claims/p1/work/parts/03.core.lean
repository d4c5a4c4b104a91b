/-! the store: what all cells hold, by names of cells (1 .. zd_M; 0 is null); a cell's kind and length never change (zd_sh) -/
section ZSA
theorem zs_ms {α : Type} (N : Nat) (f g : Nat → α) (k : Nat) (v : α) (h1 : g k = v) (h2 : ∀ j, j ≠ k → g j = f j) : ((List.range N).map f).set k v = (List.range N).map g := by
  apply List.ext_getElem?
  intro j
  by_cases hj : j < N
  · by_cases e : j = k
    · subst e
      rw [List.getElem?_set_self (by simpa using hj)]
      simp [List.getElem?_map, List.getElem?_range hj, h1]
    · rw [List.getElem?_set_ne (Ne.symm e)]
      simp [List.getElem?_map, List.getElem?_range hj, h2 j e]
  · rw [List.getElem?_eq_none (by simpa using hj), List.getElem?_eq_none (by simpa using hj)]
abbrev zs_S : Type := (Nat → Nat → Int32) × (Nat → Nat → Int64) × (Nat → Nat → Nat)
def zs_i (σ : zs_S) (o k : Nat) : Int32 := σ.1 o k
def zs_l (σ : zs_S) (o k : Nat) : Int64 := σ.2.1 o k
def zs_r (σ : zs_S) (o k : Nat) : Nat := σ.2.2 o k
def zs_u {α : Type} (f : Nat → Nat → α) (o k : Nat) (v : α) : Nat → Nat → α := fun a b => if a = o ∧ b = k then v else f a b
def zs_wi (σ : zs_S) (o k : Nat) (v : Int32) : zs_S := (zs_u σ.1 o k v, σ.2.1, σ.2.2)
def zs_wl (σ : zs_S) (o k : Nat) (v : Int64) : zs_S := (σ.1, zs_u σ.2.1 o k v, σ.2.2)
def zs_wr (σ : zs_S) (o k : Nat) (v : Nat) : zs_S := (σ.1, σ.2.1, zs_u σ.2.2 o k v)
def zs_cp (σ : zs_S) (a b sp dp n : Nat) : zs_S := (fun o k => if o = b then va_cpy (σ.1 a) (σ.1 b) sp dp n k else σ.1 o k, σ.2.1, σ.2.2)
theorem zs_iu (σ : zs_S) (o k : Nat) (v : Int32) : zs_i (zs_wi σ o k v) o = upd (zs_i σ o) k v := by
  funext j
  simp [zs_i, zs_wi, zs_u, upd]
theorem zs_in (σ : zs_S) {o b : Nat} (k : Nat) (v : Int32) (h : b ≠ o) : zs_i (zs_wi σ o k v) b = zs_i σ b := by
  funext j
  simp [zs_i, zs_wi, zs_u, h]
theorem zs_lu (σ : zs_S) (o k : Nat) (v : Int64) : zs_l (zs_wl σ o k v) o = vp_updL (zs_l σ o) k v := by
  funext j
  simp [zs_l, zs_wl, zs_u, vp_updL]
theorem zs_ln (σ : zs_S) {o b : Nat} (k : Nat) (v : Int64) (h : b ≠ o) : zs_l (zs_wl σ o k v) b = zs_l σ b := by
  funext j
  simp [zs_l, zs_wl, zs_u, h]
theorem zs_ru (σ : zs_S) (o k : Nat) (v : Nat) : zs_r (zs_wr σ o k v) o = va_up (zs_r σ o) k v := by
  funext j
  simp [zs_r, zs_wr, zs_u, va_up]
theorem zs_rn (σ : zs_S) {o b : Nat} (k : Nat) (v : Nat) (h : b ≠ o) : zs_r (zs_wr σ o k v) b = zs_r σ b := by
  funext j
  simp [zs_r, zs_wr, zs_u, h]
theorem zs_cu (σ : zs_S) (a b sp dp n : Nat) : zs_i (zs_cp σ a b sp dp n) b = va_cpy (zs_i σ a) (zs_i σ b) sp dp n := by
  funext j
  simp only [zs_i, zs_cp, if_true]
  rfl
theorem zs_cn (σ : zs_S) (a : Nat) {b o : Nat} (sp dp n : Nat) (h : o ≠ b) : zs_i (zs_cp σ a b sp dp n) o = zs_i σ o := by
  funext j
  simp [zs_i, zs_cp, h]
def zs_o (ad : Nat → Nat) (q : Nat) : Option Nat := if q = 0 then none else some (ad q)
theorem zs_o_ne {ad : Nat → Nat} {q : Nat} (h : q ≠ 0) : zs_o ad q = some (ad q) := by simp [zs_o, h]
/-- field k of the object o of class c -/
def zs_f (w : Nat) (ad : Nat → Nat) (fi : Nat → Int32) (fl : Nat → Int64) (fr : Nat → Nat) (c o k : Nat) : Value := match zd_ft w c k with
  | 0 => .int (fi k)
  | 1 => .long (fl k)
  | 2 => va_rf (zs_o ad (fr k))
  | _ => va_rf (zs_o ad (zd_rf w o k))
/-- what an array of kind t holds -/
def zs_a (w : Nat) (ad : Nat → Nat) (fi : Nat → Int32) (fl : Nat → Int64) (fr : Nat → Nat) (t o : Nat) : (Nat → Int32) ⊕ (Nat → Int64) ⊕ (Nat → UInt32) ⊕ (Nat → UInt64) ⊕ (Nat → Option Nat) := match t with
  | 0 => .inl fi
  | 1 => .inl fi
  | 2 => .inl fi
  | 3 => .inr (.inl fl)
  | 4 => .inr (.inr (.inr (.inr (fun k => zs_o ad (fr k)))))
  | 7 => .inr (.inr (.inr (.inr (fun k => zs_o ad (fr k)))))
  | 8 => .inr (.inr (.inr (.inr (fun k => zs_o ad (fr k)))))
  | _ => .inr (.inr (.inr (.inr (fun k => zs_o ad (zd_rf w o k)))))
def zs_e (w : Nat) (cA : Nat → ClassId) (ad : Nat → Nat) (fi : Nat → Int32) (fl : Nat → Int64) (fr : Nat → Nat) (o : Nat) : va_E :=
  if (zd_sh w o).1 < 10 then .inl (cA o, (zd_sh w o).2, zs_a w ad fi fl fr (zd_sh w o).1 o)
  else .inr ((zd_sh w o).1 - 10, (List.range (zd_N ((zd_sh w o).1 - 10))).map (zs_f w ad fi fl fr ((zd_sh w o).1 - 10) o))
def zs_c (w : Nat) (cA : Nat → ClassId) (ad : Nat → Nat) (σ : zs_S) (o : Nat) : va_E := zs_e w cA ad (zs_i σ o) (zs_l σ o) (zs_r σ o) o
def zs_w (w : Nat) (cA : Nat → ClassId) (ad : Nat → Nat) (σ : zs_S) : va_W := (zd_L w).map (fun o => (ad o, zs_c w cA ad σ o))
def zs_t (w : Nat) (cA : Nat → ClassId) : List (ClassId × FieldType) := (zd_LA w).map (fun o => (cA o, zd_ty (zd_sh w o).1))
theorem zs_ch {w : Nat} {cA : Nat → ClassId} {ad : Nat → Nat} {σ σ' : zs_S} {b : Nat} (h1 : zs_i σ' b = zs_i σ b) (h2 : zs_l σ' b = zs_l σ b) (h3 : zs_r σ' b = zs_r σ b) : zs_c w cA ad σ' b = zs_c w cA ad σ b := by
  unfold zs_c
  rw [h1, h2, h3]
theorem zs_get (w : Nat) (cA : Nat → ClassId) (ad : Nat → Nat) (σ : zs_S) {o : Nat} (h : o ∈ zd_L w) : ∃ k : Nat, (zs_w w cA ad σ)[k]? = some (ad o, zs_c w cA ad σ o) := by
  apply List.getElem?_of_mem
  exact List.mem_map.mpr ⟨o, h, rfl⟩
theorem zs_tg {w : Nat} (cA : Nat → ClassId) {o t : Nat} (h : o ∈ zd_L w) (hs : (zd_sh w o).1 = t) (ht : t < 10) : ∃ t0 : Nat, (zs_t w cA)[t0]? = some (cA o, zd_ty t) := by
  apply List.getElem?_of_mem
  refine List.mem_map.mpr ⟨o, ?_, by rw [hs]⟩
  exact List.mem_filter.mpr ⟨h, by rw [hs]; exact decide_eq_true ht⟩
/-- names below 1200 (cells, tokens, kinds) lie apart -/
def zs_J (ad : Nat → Nat) : Prop := ∀ a b : Nat, a < 1200 → b < 1200 → ad a = ad b → a = b
theorem zd_sm {w o : Nat} (h : o ∈ zd_L w) : o < 1200 := by
  have h1 := List.mem_range'_1.mp h
  have h2 : zd_M w ≤ 139 := by
    match w with
    | 0 => decide
    | 1 => decide
    | 2 => decide
    | n + 3 => show 67 ≤ 139; decide
  omega
theorem zs_set {w : Nat} {A : Nat → Prop} {cA : Nat → ClassId} {ad : Nat → Nat} {σ σ' : zs_S} {o k : Nat} {x : va_E} (hD : va_D A (zs_w w cA ad σ)) (hk : (zs_w w cA ad σ)[k]? = some (ad o, zs_c w cA ad σ o)) (hJ : zs_J ad) (ho : o ∈ zd_L w) (hx : x = zs_c w cA ad σ' o) (hs : ∀ b, b ≠ o → zs_c w cA ad σ' b = zs_c w cA ad σ b) : (zs_w w cA ad σ).set k (ad o, x) = zs_w w cA ad σ' := by
  subst hx
  have hl := (List.getElem?_eq_some_iff.mp hk).1
  apply List.ext_getElem?
  intro j
  by_cases hj : j = k
  · subst hj
    rw [List.getElem?_set_self hl]
    simp only [zs_w, List.getElem?_map] at hk ⊢
    cases hb : (zd_L w)[j]? with
    | none => rw [hb] at hk; cases hk
    | some b =>
      rw [hb] at hk
      have h1 : ad b = ad o := congrArg Prod.fst (Option.some.inj hk)
      have h2 : b = o := hJ _ _ (zd_sm (List.mem_of_getElem? hb)) (zd_sm ho) h1
      subst h2
      rfl
  · rw [List.getElem?_set_ne (Ne.symm hj)]
    simp only [zs_w, List.getElem?_map]
    cases hb : (zd_L w)[j]? with
    | none => rfl
    | some b =>
      have hbo : b ≠ o := by
        intro h
        subst h
        have h2 : (zs_w w cA ad σ)[j]? = some (ad b, zs_c w cA ad σ b) := by
          simp only [zs_w, List.getElem?_map, hb]
          rfl
        exact hj (hD.1 j k _ _ h2 hk rfl)
      show some (ad b, zs_c w cA ad σ b) = some (ad b, zs_c w cA ad σ' b)
      rw [hs b hbo]
theorem zs_co {w : Nat} {cA : Nat → ClassId} {ad : Nat → Nat} {σ : zs_S} {o c : Nat} (h : (zd_sh w o).1 = 10 + c) : zs_c w cA ad σ o = .inr (c, (List.range (zd_N c)).map (zs_f w ad (zs_i σ o) (zs_l σ o) (zs_r σ o) c o)) := by
  unfold zs_c zs_e
  rw [h, if_neg (by omega), Nat.add_sub_cancel_left]
theorem zs_ca {w : Nat} {cA : Nat → ClassId} {ad : Nat → Nat} {σ : zs_S} {o t n : Nat} (h : (zd_sh w o).1 = t) (hn : (zd_sh w o).2 = n) (ht : t < 10) : zs_c w cA ad σ o = .inl (cA o, n, zs_a w ad (zs_i σ o) (zs_l σ o) (zs_r σ o) t o) := by
  unfold zs_c zs_e
  rw [h, hn, if_pos ht]
/-- the three that move: the cells hold σ, they are apart and in A, nothing else has changed since the entry -/
def zs_I (w : Nat) (D : va_G) (cA : Nat → ClassId) (ad : Nat → Nat) (A : Nat → Prop) (s : State) (σ : zs_S) (H : Heap) (locs : List Loc) : Prop :=
  va_P D zd_cl (zs_w w cA ad σ) H ∧ va_D A (zs_w w cA ad σ) ∧ va_S A s.heap H locs
/-- guards of the functional texts -/
def zq_g {α : Type} (b : Bool) (x : Option α) : Option α := match b with
  | true => x
  | false => none
theorem zq_gs {α : Type} {b : Bool} {x : Option α} {r : α} (h : zq_g b x = some r) : b = true ∧ x = some r := by
  cases b with
  | true => exact ⟨rfl, h⟩
  | false => cases h
def zq_k (w o k : Nat) : Bool := decide ((zd_sh w o).1 = k)
theorem zq_ks {w o k : Nat} (h : zq_k w o k = true) : (zd_sh w o).1 = k := of_decide_eq_true h
def zq_b (i : Int32) (n : Nat) : Bool := !(decide (i < 0) || decide (n ≤ i.toNatClampNeg))
theorem zq_bs {i : Int32} {n : Nat} (h : zq_b i n = true) : vp_in i n := by
  unfold zq_b at h
  simp only [Bool.not_eq_true', Bool.or_eq_false_iff, decide_eq_false_iff_not] at h
  intro q
  rcases q with q | q
  · exact h.1 q
  · exact h.2 q
def zq_n (q : Nat) : Bool := decide (q ≠ 0)
theorem zq_ns {q : Nat} (h : zq_n q = true) : q ≠ 0 := of_decide_eq_true h
end ZSA
/-- what a method's body stands on, all its way -/
def zs_G (w : Nat) (p : Program) (s : State) (m : MethodId) (args : Array Value) (c : Code) (cc : ByteArray) (nL : Nat) (own : String) (D : va_G) (cA : Nat → ClassId) (ad : Nat → Nat) (A : Nat → Prop) : Prop :=
  CallFix p m c cc nL s args zd_ww own ∧ va_K D zd_cl (zs_t w cA) s ∧ zs_J ad ∧ zs_Z w ad A s s.heap
section ZQA
def zq_z (x : Int32) : Bool := decide (x = 0) || decide (x = 1)
theorem zq_zs {x : Int32} (h : zq_z x = true) : narrow .boolean (.int x) = .int x := by
  unfold zq_z at h
  rcases (Bool.or_eq_true _ _).mp h with h | h
  · have := of_decide_eq_true h
    subst this
    decide
  · have := of_decide_eq_true h
    subst this
    decide
def zq_v {α β : Type} (v : α) (k : α → Option β) : Option β := k v
theorem zq_vs {α β : Type} {v y : α} {k : α → Option β} {r : β} (e : y = v) (h : zq_v v k = some r) : k y = some r := by
  subst e
  exact h
theorem zq_ss {α β : Type} {v : α} {k : α → Option β} {r : β} (h : zq_v v k = some r) : ∃ z, z = v ∧ k z = some r := ⟨v, rfl, h⟩
def zq_q {β : Type} (q : Nat) (k : Nat → Option β) : Option β := match q with
  | 0 => none
  | n + 1 => k (n + 1)
theorem zq_qs {β : Type} {q : Nat} {k : Nat → Option β} {r : β} (h : zq_q q k = some r) : ∃ z, z = q ∧ z ≠ 0 ∧ k z = some r := by
  cases q with
  | zero => cases h
  | succ n => exact ⟨n + 1, rfl, Nat.succ_ne_zero n, h⟩
def zq_c {α β : Type} (x : Option (α × zs_S)) (k : α → zs_S → Option β) : Option β := match x with
  | none => none
  | some q => k q.1 q.2
theorem zq_cs {α β : Type} {x : Option (α × zs_S)} {k : α → zs_S → Option β} {r : β} (h : zq_c x k = some r) : ∃ (a : α) (σ : zs_S), x = some (a, σ) ∧ k a σ = some r := by
  cases x with
  | none => cases h
  | some q => exact ⟨q.1, q.2, rfl, h⟩
def zq_d {β : Type} (x : Option zs_S) (k : zs_S → Option β) : Option β := match x with
  | none => none
  | some q => k q
theorem zq_ds {β : Type} {x : Option zs_S} {k : zs_S → Option β} {r : β} (h : zq_d x k = some r) : ∃ σ : zs_S, x = some σ ∧ k σ = some r := by
  cases x with
  | none => cases h
  | some q => exact ⟨q, rfl, h⟩
theorem zq_inc {x v k : Int32} {n : Int} (hk : Int32.ofInt n = k) (e : v = x + k) : x + Int32.ofInt n = v := by rw [hk, e]
theorem zs_fr {w : Nat} {ad : Nat → Nat} {fi : Nat → Int32} {fl : Nat → Int64} {fr : Nat → Nat} {c o k q : Nat} (hft : zd_ft w c k = 2) (e : q = fr k) (hq : q ≠ 0) : zs_f w ad fi fl fr c o k = .ref (ad q) := by
  unfold zs_f
  rw [hft]
  show va_rf (zs_o ad (fr k)) = _
  rw [← e, zs_o_ne hq]
  rfl
theorem zs_fs {w : Nat} {ad : Nat → Nat} {fi : Nat → Int32} {fl : Nat → Int64} {fr : Nat → Nat} {c o k q : Nat} (hft : zd_ft w c k = 3) (e : q = zd_rf w o k) (hq : q ≠ 0) : zs_f w ad fi fl fr c o k = .ref (ad q) := by
  unfold zs_f
  rw [hft]
  show va_rf (zs_o ad (zd_rf w o k)) = _
  rw [← e, zs_o_ne hq]
  rfl
end ZQA
