/-! the law: two worlds side by side -/
section ZLA
def zl_A (w : Nat) (ad : Nat → Nat) : Nat → Prop := fun q => ∃ o, o ∈ zd_L w ∧ q = ad o
/-- of one world, at the law's entry s -/
def zl_H (w : Nat) (D : va_G) (cA : Nat → ClassId) (ad : Nat → Nat) (s : State) : Prop :=
  va_K D zd_cl (zs_t w cA) s ∧ zs_J ad ∧ zs_Z w ad (fun q => s.heap.size ≤ q) s s.heap ∧ ∀ o, o ∈ zd_L w → s.heap.size ≤ ad o
def zl_I (w v : Nat) (D : va_G) (cA cB : Nat → ClassId) (ad bd : Nat → Nat) (s : State) (σ τ : zs_S) (H : Heap) (locs : List Loc) : Prop :=
  va_P D zd_cl (zs_w w cA ad σ) H ∧ va_P D zd_cl (zs_w v cB bd τ) H ∧ va_S (fun q => s.heap.size ≤ q) s.heap H locs
theorem zl_sw {w v : Nat} {D : va_G} {cA cB : Nat → ClassId} {ad bd : Nat → Nat} {s : State} {σ τ : zs_S} {H : Heap} {locs : List Loc} (h : zl_I w v D cA cB ad bd s σ τ H locs) : zl_I v w D cB cA bd ad s τ σ H locs := ⟨h.2.1, h.1, h.2.2⟩
theorem zl_D {w : Nat} {cA : Nat → ClassId} {ad : Nat → Nat} {σ : zs_S} (hJ : zs_J ad) : va_D (zl_A w ad) (zs_w w cA ad σ) := by
  refine ⟨fun i j x y hx hy e => ?_, fun k x hx => ?_⟩
  · simp only [zs_w, List.getElem?_map] at hx hy
    cases h1 : (zd_L w)[i]? with
    | none => rw [h1] at hx; cases hx
    | some a =>
      cases h2 : (zd_L w)[j]? with
      | none => rw [h2] at hy; cases hy
      | some b =>
        rw [h1] at hx
        rw [h2] at hy
        cases hx
        cases hy
        have hab : a = b := hJ a b (zd_sm (List.mem_of_getElem? h1)) (zd_sm (List.mem_of_getElem? h2)) e
        subst hab
        unfold zd_L at h1 h2
        obtain ⟨hi, e1⟩ := List.getElem?_eq_some_iff.mp h1
        obtain ⟨hj, e2⟩ := List.getElem?_eq_some_iff.mp h2
        rw [List.getElem_range'] at e1 e2
        omega
  · simp only [zs_w, List.getElem?_map] at hx
    cases h1 : (zd_L w)[k]? with
    | none => rw [h1] at hx; cases hx
    | some a =>
      rw [h1] at hx
      cases hx
      exact ⟨a, List.mem_of_getElem? h1, rfl⟩
theorem zs_Znar {w : Nat} {ad : Nat → Nat} {A B : Nat → Prop} {U : State} {H : Heap} (hAB : ∀ q, B q → A q) (h : zs_Z w ad A U H) : zs_Z w ad B U H := by
  refine ⟨fun e => ?_, fun e => ?_⟩
  · obtain ⟨h1, h2, h3, h4, h5, h6, h7, h8, h9, h10⟩ := h.1 e
    exact ⟨h1.narrow hAB, h2.narrow hAB, h3.narrow hAB, h4.narrow hAB, h5.narrow hAB, h6.narrow hAB, h7.narrow hAB, h8.narrow hAB, h9.narrow hAB, h10⟩
  · obtain ⟨h1, h2, h3, h4⟩ := h.2 e
    exact ⟨h1.narrow hAB, h2.narrow hAB, h3, h4.narrow hAB⟩
variable {p : Program} {l : Launch} {e : Env} {R : Room} {s : State} {m : MethodId} {args : Array Value} {below : List Frame} {meth : Method} {c : Code} {H : Heap} {locs : List Loc} {cells slots : Nat} {Q : State → Prop}
variable {cc : ByteArray} {w v nL pc : Nat} {ls : Array Slot} {rest : List Value} {D : va_G} {cA cB : Nat → ClassId} {ad bd : Nat → Nat} {σ τ : zs_S} {own : String}
theorem zl_in (hH : zl_H w D cA ad s) : ∀ q, zl_A w ad q → s.heap.size ≤ q := fun q h => by
  obtain ⟨o, ho, rfl⟩ := h
  exact hH.2.2.2 o ho
theorem zl_pre (hH : zl_H w D cA ad s) (hw : zl_I w v D cA cB ad bd s σ τ H locs) (U : State) (hU : U.heap = H) (hW : s.WarmedH U.vm) : zs_U w D cA ad (zl_A w ad) σ U :=
  ⟨by rw [hU]; exact hw.1, va_K.moved hW.alike hH.1, zl_D hH.2.1, by rw [hU]; exact zs_Zwarm hW (zs_Znar (zl_in hH) (zs_Zkept hw.2.2.2.1 hH.2.2.1))⟩
/-- a call on an object of a world: the other world stays -/
theorem zl_call {y : MethodName} {bytes : ByteArray} {maxL n index mc ms ci N : Nat} {ret : Option FieldType} {ws : List Cond} {rm : Room} {C : String} {T : u_T} {r : Int32} {σ' : zs_S} (S : CallFix p m c cc nL s args zd_ww own) (hH : zl_H w D cA ad s) (hap : ∀ o, o ∈ zd_L w → ∀ o', o' ∈ zd_L v → bd o' ≠ ad o) (hw : zl_I w v D cA cB ad bd s σ τ H locs) (As : List Value) (hs : (zd_sh w 1).1 = 10 + ci) (hc : zd_cl[ci]? = some (C, T, N)) (hM : Met l y ws rm (va_Pc (.ref (ad 1) :: As) (zs_U w D cA ad (zl_A w ad) σ)) (zs_Qi w D cA ad (zl_A w ad) (r, σ')) mc ms (zl_A w ad)) (cw : CallW R s args own C index y bytes maxL ret ws rm mc ms n) (hn : As.length = n) (hsz : ls.size = nL) (hroom : (rest.map fun v => v.category).sum ≤ 8) (hdg : decode cc pc = .ok (.invokevirtual index, 3)) (hcs : cells + mc ≤ R.cells ∧ slots + ms ≤ R.slots) (kk : ∀ (H1 : Heap) (locs1 : List Loc), zl_I w v D cA cB ad bd s σ' τ H1 locs1 → W p l e R s m args below meth c H1 locs1 (cells + mc) (slots + ms) Q (F0 m (pc + 3) ls (.int r :: rest))) : W p l e R s m args below meth c H locs cells slots Q (F0 m pc ls (As.reverse ++ .ref (ad 1) :: rest)) := by
  have hrec : ∃ cell : Cell, H[ad 1]? = some cell ∧ cell.vm.isStatics = false ∧ s.vm.findClass C = some cell.cls := by
    obtain ⟨q0, he⟩ := zs_get w cA ad σ (zd_in hs (zd_lt hc))
    rw [zs_co hs] at he
    exact va_recv hH.1 hw.1 hc he
  refine va_calli (va_runV (As := As) (rest := rest) S hM cw ⟨zs_blind, hrec, fun U hU hW => ⟨rfl, zl_pre hH hw U hU hW⟩⟩ rfl hn hsz rfl (lv_room hroom) hdg hcs) hw.2.2 (fun q _ h => zl_in hH q h) (fun q h => zl_in hH q h) (fun r' u t H1 locs1 ht hvm hp hB hz hk hS => ?_)
  have h1 : r' = r := hp.1
  have h2 : u = σ' := hp.2
  subst h1
  subst h2
  refine kk H1 locs1 ⟨by rw [← ht]; exact hB.1, hw.2.1.kept (fun k x hx => hk x.1 ((hw.2.1 k x hx).lt) (fun hA => ?_)), hS⟩
  obtain ⟨o, ho, e1⟩ := hA
  simp only [zs_w, List.getElem?_map] at hx
  cases h1 : (zd_L v)[k]? with
  | none => rw [h1] at hx; cases hx
  | some a =>
    rw [h1] at hx
    cases hx
    exact hap o ho a (List.mem_of_getElem? h1) e1
end ZLA
