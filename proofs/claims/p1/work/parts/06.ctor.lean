/-! the making: worlds of the first j names, in the order in which they are made; name o lies at b + (o - 1) -/
section ZKA
def zk_w (w j : Nat) (cA : Nat → ClassId) (ad : Nat → Nat) (σ : zs_S) : va_W := (List.range' 1 j).map (fun o => (ad o, zs_c w cA ad σ o))
theorem zk_gt (w : Nat) (cA : Nat → ClassId) (ad : Nat → Nat) (σ : zs_S) {j o : Nat} (h1 : 1 ≤ o) (h2 : o ≤ j) : ∃ k : Nat, (zk_w w j cA ad σ)[k]? = some (ad o, zs_c w cA ad σ o) := by
  apply List.getElem?_of_mem
  exact List.mem_map.mpr ⟨o, List.mem_range'_1.mpr ⟨h1, by omega⟩, rfl⟩
theorem zk_set {w j : Nat} {A : Nat → Prop} {cA : Nat → ClassId} {ad : Nat → Nat} {σ σ' : zs_S} {o k : Nat} {x : va_E} (hD : va_D A (zk_w w j cA ad σ)) (hk : (zk_w w j cA ad σ)[k]? = some (ad o, zs_c w cA ad σ o)) (hJ : zs_J ad) (hjM : j < 1200) (ho : o ≤ j) (hx : x = zs_c w cA ad σ' o) (hs : ∀ b, b ≠ o → zs_c w cA ad σ' b = zs_c w cA ad σ b) : (zk_w w j cA ad σ).set k (ad o, x) = zk_w w j cA ad σ' := by
  subst hx
  have hl := (List.getElem?_eq_some_iff.mp hk).1
  apply List.ext_getElem?
  intro i
  by_cases hj : i = k
  · subst hj
    rw [List.getElem?_set_self hl]
    simp only [zk_w, List.getElem?_map] at hk ⊢
    cases hb : (List.range' 1 j)[i]? with
    | none => rw [hb] at hk; cases hk
    | some b =>
      rw [hb] at hk
      have h1 : ad b = ad o := congrArg Prod.fst (Option.some.inj hk)
      have h9 := List.mem_range'_1.mp (List.mem_of_getElem? hb)
      have h2 : b = o := hJ _ _ (by omega) (by omega) h1
      subst h2
      rfl
  · rw [List.getElem?_set_ne (Ne.symm hj)]
    simp only [zk_w, List.getElem?_map]
    cases hb : (List.range' 1 j)[i]? with
    | none => rfl
    | some b =>
      have hbo : b ≠ o := by
        intro h
        subst h
        have h2 : (zk_w w j cA ad σ)[i]? = some (ad b, zs_c w cA ad σ b) := by
          simp only [zk_w, List.getElem?_map, hb]
          rfl
        exact hj (hD.1 i k _ _ h2 hk rfl)
      show some (ad b, zs_c w cA ad σ b) = some (ad b, zs_c w cA ad σ' b)
      rw [hs b hbo]
theorem zk_push (w j : Nat) (cA : Nat → ClassId) (ad : Nat → Nat) (σ : zs_S) : zk_w w (j + 1) cA ad σ = zk_w w j cA ad σ ++ [(ad (j + 1), zs_c w cA ad σ (j + 1))] := by
  unfold zk_w
  rw [List.range'_1_concat, List.map_append, Nat.add_comm 1 j]
  rfl
/-- beyond j nothing is written yet -/
def zk_d (j : Nat) (σ : zs_S) : Prop := ∀ o, j < o → zs_i σ o = (fun _ => 0) ∧ zs_l σ o = (fun _ => 0) ∧ zs_r σ o = (fun _ => 0)
theorem zk_dm {j i : Nat} {σ : zs_S} (h : zk_d j σ) (hi : j ≤ i) : zk_d i σ := fun o ho => h o (by omega)
theorem zk_dw {j o : Nat} {σ : zs_S} (h : zk_d j σ) (ho : o ≤ j) (k v : Nat) : zk_d j (zs_wr σ o k v) := fun q hq => ⟨(h q hq).1, (h q hq).2.1, by rw [zs_rn σ k v (by omega)]; exact (h q hq).2.2⟩
def zk_I (w : Nat) (D : va_G) (cA : Nat → ClassId) (ad : Nat → Nat) (A : Nat → Prop) (s : State) (b j : Nat) (σ : zs_S) (H : Heap) (locs : List Loc) : Prop :=
  va_P D zd_cl (zk_w w j cA ad σ) H ∧ va_D A (zk_w w j cA ad σ) ∧ va_S A s.heap H locs ∧ H.size = b + j ∧ zk_d j σ
/-- the classes of the rows of references that are made -/
def zk_O (w : Nat) (U : State) : Prop := (w = 2 → va_AO "ScheduleCheck$Token" U ∧ va_AO "ScheduleCheck$Statement" U) ∧ (w = 3 → va_AO "ScheduleCheckModel$Names" U)
theorem zk_Om {w : Nat} {u U : State} (hvm : u.vm.Alike U.vm) (h : zk_O w u) : zk_O w U := ⟨fun e => ⟨(h.1 e).1.moved hvm, (h.1 e).2.moved hvm⟩, fun e => (h.2 e).moved hvm⟩
def zk_G (w : Nat) (p : Program) (s : State) (m : MethodId) (args : Array Value) (c : Code) (cc : ByteArray) (nL : Nat) (own : String) (D : va_G) (cA : Nat → ClassId) (ad : Nat → Nat) (A : Nat → Prop) (b : Nat) : Prop :=
  CallFix p m c cc nL s args zd_ww own ∧ va_K D zd_cl (zs_t w cA) s ∧ zs_J ad ∧ zs_Z (w - 2) ad A s s.heap ∧ (∀ o, 1 ≤ o → o ≤ zd_M w → ad o = b + (o - 1)) ∧ (∀ q, b ≤ q → A q) ∧ zk_O w s
def zk_U (w : Nat) (D : va_G) (cA : Nat → ClassId) (ad : Nat → Nat) (A : Nat → Prop) (b j : Nat) (σ : zs_S) (U : State) : Prop :=
  va_P D zd_cl (zk_w w j cA ad σ) U.heap ∧ va_K D zd_cl (zs_t w cA) U ∧ va_D A (zk_w w j cA ad σ) ∧ zs_Z (w - 2) ad A U U.heap ∧ U.heap.size = b + j ∧ zk_d j σ ∧ zk_O w U
abbrev zk_Q (w : Nat) (D : va_G) (cA : Nat → ClassId) (ad : Nat → Nat) (A : Nat → Prop) (b j : Nat) (q : zs_S) := va_Qv (S := zs_S) (fun u => u = q) (fun u t => zk_U w D cA ad A b j u t) A
variable {p : Program} {l : Launch} {e : Env} {R : Room} {s : State} {m : MethodId} {args : Array Value} {below : List Frame} {meth : Method} {c : Code} {H : Heap} {locs : List Loc} {cells slots : Nat} {Q : State → Prop}
variable {cc : ByteArray} {w nL pc b j : Nat} {ls : Array Slot} {rest : List Value} {D : va_G} {cA : Nat → ClassId} {ad : Nat → Nat} {A : Nat → Prop} {σ : zs_S} {own : String}
theorem zk_blind {av : List Value} : FrameBlind (va_Pc av (zk_U w D cA ad A b j σ)) := fun a U g mk q => by
  obtain ⟨q0, qP, qK, qD, qZ, qs, qd, qO⟩ := q
  exact ⟨q0, qP, va_K.moved (u := U) (U := U.calling g mk a) (Vm.Alike.refl U.vm) qK, qD, zs_Zsame (u := U) (U := U.calling g mk a) rfl qZ, qs, qd, zk_Om (u := U) (U := U.calling g mk a) (Vm.Alike.refl U.vm) qO⟩
theorem zk_pre (G : zk_G w p s m args c cc nL own D cA ad A b) (hw : zk_I w D cA ad A s b j σ H locs) (U : State) (hU : U.heap = H) (hW : s.WarmedH U.vm) : zk_U w D cA ad A b j σ U :=
  ⟨by rw [hU]; exact hw.1, va_K.moved hW.alike G.2.1, hw.2.1, by rw [hU]; exact zs_Zwarm hW (zs_Zkept hw.2.2.1.2.1 G.2.2.2.1), by rw [hU]; exact hw.2.2.2.1, hw.2.2.2.2, zk_Om hW.alike G.2.2.2.2.2.2⟩
theorem zk_get (G : zk_G w p s m args c cc nL own D cA ad A b) (hw : zk_I w D cA ad A s b j σ H locs) {ref C : String} {T : u_T} {N ci index : Nat} (o k : Nat) (ho : 1 ≤ o ∧ o ≤ j) (hin : ∀ w ∈ u_ws C T N, w ∈ zd_ww) (hs : (zd_sh w o).1 = 10 + ci) (hc : zd_cl[ci]? = some (C, T, N)) (hN : zd_N ci = N) (hk : k < N) (hlink : Cond.fieldLink own index ref (T k).2.1 (T k).2.2.1 ∈ zd_ww) (hsame : ∀ x, s.fieldFound? (T k).1 (T k).2.1 (T k).2.2.1 = some x → s.fieldFound? ref (T k).2.1 (T k).2.2.1 = some x) {q : Nat} (hft : zd_ft w ci k = 2) (hq : zs_r σ o k = q) (hq0 : q ≠ 0) (hdg : decode cc pc = .ok (.getfield index, 3)) (kk : W p l e R s m args below meth c H locs cells slots Q (F0 m (pc + 3) ls (.ref (ad q) :: rest))) : W p l e R s m args below meth c H locs cells slots Q (F0 m pc ls (.ref (ad o) :: rest)) := by
  obtain ⟨⟨hx, hb, hml, hown, hts⟩, hK, hJ, hZ, had, hA, hO⟩ := G
  obtain ⟨q0, he⟩ := zk_gt w cA ad σ ho.1 ho.2
  rw [zs_co hs] at he
  exact va_get hx hb hts hin hown hK hw.1 q0 he hc k hk (hts _ hlink) hsame (v := .ref (ad q)) (by rw [List.getElem?_map, List.getElem?_range (by rw [hN]; exact hk)]; show some _ = some _; rw [zs_fr hft hq.symm hq0]) hdg kk
theorem zk_fr {ci o k x : Nat} (hs : (zd_sh w o).1 = 10 + ci) (hft : zd_ft w ci k = 2) (hq : x ≠ 0) : (.inr (ci, ((List.range (zd_N ci)).map (zs_f w ad (zs_i σ o) (zs_l σ o) (zs_r σ o) ci o)).set k (.ref (ad x))) : va_E) = zs_c w cA ad (zs_wr σ o k x) o := by
  rw [zs_co hs]
  refine congrArg (fun z => Sum.inr (ci, z)) (zs_ms _ _ _ k _ ?_ ?_)
  · unfold zs_f
    rw [hft, zs_ru]
    simp [va_up, zs_o_ne hq, va_rf]
  · intro i hj
    have e1 : va_up (zs_r σ o) k x i = zs_r σ o i := by simp [va_up, hj]
    unfold zs_f
    rw [zs_ru, e1]
    rfl
theorem zk_putF (G : zk_G w p s m args c cc nL own D cA ad A b) (hw : zk_I w D cA ad A s b j σ H locs) {ref C : String} {T : u_T} {N ci index : Nat} (o k : Nat) (hjM : j < 1200) (ho : 1 ≤ o ∧ o ≤ j) (hin : ∀ w ∈ u_ws C T N, w ∈ zd_ww) (ty0 : Nat → FieldType) (hty : ∀ k, k < N → parseFieldDescriptor (T k).2.2.1 = some (ty0 k)) (hnm : ∀ a, a < N → ∀ b, b < N → a ≠ b → (T a).2.1 ≠ (T b).2.1) (hs : (zd_sh w o).1 = 10 + ci) (hc : zd_cl[ci]? = some (C, T, N)) (hN : zd_N ci = N) (hk : k < N) (hft : zd_ft w ci k = 2) (hlink : Cond.fieldLink own index ref (T k).2.1 (T k).2.2.1 ∈ zd_ww) (hsame : ∀ x, s.fieldFound? (T k).1 (T k).2.1 (T k).2.2.1 = some x → s.fieldFound? ref (T k).2.1 (T k).2.2.1 = some x) (hfin : (T k).2.2.2 = true) (hin2 : meth.name = "<init>") (hdecl : (T k).1 = own) {ty : FieldType} {x : Nat} (hq : x ≠ 0) (hd : parseFieldDescriptor (T k).2.2.1 = some ty) (hn : narrow ty (.ref (ad x)) = .ref (ad x)) (hfit : fits ty (.ref (ad x)) = true) (hdg : decode cc pc = .ok (.putfield index, 3)) (kk : ∀ (H1 : Heap) (locs1 : List Loc), zk_I w D cA ad A s b j (zs_wr σ o k x) H1 locs1 → W p l e R s m args below meth c H1 locs1 cells slots Q (F0 m (pc + 3) ls rest)) : W p l e R s m args below meth c H locs cells slots Q (F0 m pc ls (.ref (ad x) :: .ref (ad o) :: rest)) := by
  obtain ⟨⟨hx, hb, hml, hown, hts⟩, hK, hJ, hZ, had, hA, hO⟩ := G
  obtain ⟨hP, hD, hS0, hz, hd9⟩ := hw
  obtain ⟨q0, he0⟩ := zk_gt w cA ad σ ho.1 ho.2
  have he := he0
  rw [zs_co hs] at he
  have hap := va_apart (own := own) hts hin ty0 hty hnm hK hc
  obtain ⟨r, h1, cell, q1, q2, q3, q4⟩ := hP q0 _ he
  have hr : r = (C, T, N) := Option.some.inj (h1.symm.trans hc)
  subst hr
  obtain ⟨hS, hfc, kC, hkC, hkind⟩ := hK.1 ci _ hc
  obtain ⟨cf, kf, fi, f, hi, hsl⟩ := hS k hk
  have hlay := hts _ (hin _ (u_in_lay hk))
  unfold u_lay at hlay
  rw [if_pos hfin] at hlay
  have hst := (u_facts hfc hkC (u_lays hts hin hk) hi).1
  have hcf : m.cls = cf := by
    obtain ⟨_, _, c', _, _, _, -, -, hf', -, -, -, hown2, -⟩ := Cond.laysFinal_spec hlay
    have e1 : c' = cf := by have := hi.symm.trans hf'; simp at this; exact this.1.symm
    rw [hdecl] at hown2
    rw [← e1]; exact Option.some.inj (hown.symm.trans hown2)
  have h6 := u_fits hfc hkC hkind (Or.inr hlay) hi hd hn hfit
  refine W.putFinK hx hb hown (hts _ hlink) (hsame _ hi) hst hcf hin2 (by rw [q2]; exact h6) q1 q3 (by rw [hsl]; exact k2_hasslot (q4 k hk)) rfl rfl hdg fun H' e1 e2 e3 => ?_
  rw [hsl] at e1 ⊢
  have hl : k < ((List.range (zd_N ci)).map (zs_f w ad (zs_i σ o) (zs_l σ o) (zs_r σ o) ci o)).length := by rw [List.length_map, List.length_range, hN]; exact hk
  have hP1 := hP.set hD he (e := .inr (ci, ((List.range (zd_N ci)).map (zs_f w ad (zs_i σ o) (zs_l σ o) (zs_r σ o) ci o)).set k (.ref (ad x)))) ⟨_, hc, t_OB.to (V := updV (vp_V _) k (.ref (ad x))) ⟨_, e1, q2, q3, t_set q4 hap hk (.ref (ad x))⟩ (fun i _ => vp_updV_set hl (.ref (ad x)) i)⟩ e3
  have hD1 := hD.set (e := .inr (ci, ((List.range (zd_N ci)).map (zs_f w ad (zs_i σ o) (zs_l σ o) (zs_r σ o) ci o)).set k (.ref (ad x)))) he
  have e9 := zk_set (σ' := zs_wr σ o k x) hD he0 hJ hjM ho.2 (zk_fr (cA := cA) hs hft hq) (fun b hb2 => zs_ch rfl rfl (zs_rn σ k x hb2))
  rw [e9] at hP1 hD1
  exact kk H' _ ⟨hP1, hD1, hS0.put e2 e3 (hD.2 q0 _ he), e2.trans hz, zk_dw hd9 ho.2 k x⟩
theorem zk_putr (G : zk_G w p s m args c cc nL own D cA ad A b) (hw : zk_I w D cA ad A s b j σ H locs) {ref C : String} {T : u_T} {N ci index : Nat} (o k : Nat) (hjM : j < 1200) (ho : 1 ≤ o ∧ o ≤ j) (hin : ∀ w ∈ u_ws C T N, w ∈ zd_ww) (ty0 : Nat → FieldType) (hty : ∀ k, k < N → parseFieldDescriptor (T k).2.2.1 = some (ty0 k)) (hnm : ∀ a, a < N → ∀ b, b < N → a ≠ b → (T a).2.1 ≠ (T b).2.1) (hs : (zd_sh w o).1 = 10 + ci) (hc : zd_cl[ci]? = some (C, T, N)) (hN : zd_N ci = N) (hk : k < N) (hft : zd_ft w ci k = 2) (hlink : Cond.fieldLink own index ref (T k).2.1 (T k).2.2.1 ∈ zd_ww) (hsame : ∀ x, s.fieldFound? (T k).1 (T k).2.1 (T k).2.2.1 = some x → s.fieldFound? ref (T k).2.1 (T k).2.2.1 = some x) (hfin : (T k).2.2.2 = false) {ty : FieldType} {x : Nat} (hq : x ≠ 0) (hd : parseFieldDescriptor (T k).2.2.1 = some ty) (hn : narrow ty (.ref (ad x)) = .ref (ad x)) (hfit : fits ty (.ref (ad x)) = true) (hdg : decode cc pc = .ok (.putfield index, 3)) (kk : ∀ (H1 : Heap) (locs1 : List Loc), zk_I w D cA ad A s b j (zs_wr σ o k x) H1 locs1 → W p l e R s m args below meth c H1 locs1 cells slots Q (F0 m (pc + 3) ls rest)) : W p l e R s m args below meth c H locs cells slots Q (F0 m pc ls (.ref (ad x) :: .ref (ad o) :: rest)) := by
  obtain ⟨⟨hx, hb, hml, hown, hts⟩, hK, hJ, hZ, had, hA, hO⟩ := G
  obtain ⟨hP, hD, hS0, hz, hd9⟩ := hw
  obtain ⟨q0, he0⟩ := zk_gt w cA ad σ ho.1 ho.2
  have he := he0
  rw [zs_co hs] at he
  have hap := va_apart (own := own) hts hin ty0 hty hnm hK hc
  obtain ⟨r, h1, cell, q1, q2, q3, q4⟩ := hP q0 _ he
  have hr : r = (C, T, N) := Option.some.inj (h1.symm.trans hc)
  subst hr
  obtain ⟨hS, hfc, kC, hkC, hkind⟩ := hK.1 ci _ hc
  obtain ⟨cf, kf, fi, f, hi, hsl⟩ := hS k hk
  have hlay := hts _ (hin _ (u_in_lay hk))
  unfold u_lay at hlay
  rw [if_neg (by rw [hfin]; decide)] at hlay
  have hst := (u_facts hfc hkC (u_lays hts hin hk) hi).1
  have h6 := u_store hfc hkC hkind hlay hi hd hn hfit
  refine W.putK hx hb (f := f) ⟨hown, hts _ hlink, ⟨_, _, _, hsame _ hi⟩, hst⟩ (by rw [q2]; exact h6) q1 q3 (by rw [hsl]; exact k2_hasslot (q4 k hk)) rfl rfl hdg fun H' e1 e2 e3 => ?_
  rw [hsl] at e1 ⊢
  have hl : k < ((List.range (zd_N ci)).map (zs_f w ad (zs_i σ o) (zs_l σ o) (zs_r σ o) ci o)).length := by rw [List.length_map, List.length_range, hN]; exact hk
  have hP1 := hP.set hD he (e := .inr (ci, ((List.range (zd_N ci)).map (zs_f w ad (zs_i σ o) (zs_l σ o) (zs_r σ o) ci o)).set k (.ref (ad x)))) ⟨_, hc, t_OB.to (V := updV (vp_V _) k (.ref (ad x))) ⟨_, e1, q2, q3, t_set q4 hap hk (.ref (ad x))⟩ (fun i _ => vp_updV_set hl (.ref (ad x)) i)⟩ e3
  have hD1 := hD.set (e := .inr (ci, ((List.range (zd_N ci)).map (zs_f w ad (zs_i σ o) (zs_l σ o) (zs_r σ o) ci o)).set k (.ref (ad x)))) he
  have e9 := zk_set (σ' := zs_wr σ o k x) hD he0 hJ hjM ho.2 (zk_fr (cA := cA) hs hft hq) (fun b hb2 => zs_ch rfl rfl (zs_rn σ k x hb2))
  rw [e9] at hP1 hD1
  exact kk H' _ ⟨hP1, hD1, hS0.put e2 e3 (hD.2 q0 _ he), e2.trans hz, zk_dw hd9 ho.2 k x⟩
theorem zk_new (G : zk_G w p s m args c cc nL own D cA ad A b) (hw : zk_I w D cA ad A s b j σ H locs) {C : String} {T : u_T} {N ci index : Nat} (hin : ∀ w ∈ u_ws C T N, w ∈ zd_ww) (ty0 : Nat → FieldType) (hty : ∀ k, k < N → parseFieldDescriptor (T k).2.2.1 = some (ty0 k)) (hs : (zd_sh w (j + 1)).1 = 10 + ci) (hc : zd_cl[ci]? = some (C, T, N)) (hN : zd_N ci = N) (hj : j + 1 ≤ zd_M w) (hdef : ∀ k, k < N → defaultValue (ty0 k) = zs_f w ad (fun _ => 0) (fun _ => 0) (fun _ => 0) ci (j + 1) k) (hcl : Cond.classLink own index C ∈ zd_ww) (hinst : Cond.instantiable C N ∈ zd_ww) (hini : Cond.initialized C ∈ zd_ww) (hcells : cells + 1 ≤ R.cells) (hslots : slots + N ≤ R.slots) (hdg : decode cc pc = .ok (.new index, 3)) (kk : ∀ (H1 : Heap), zk_I w D cA ad A s b (j + 1) σ H1 locs → W p l e R s m args below meth c H1 locs (cells + 1) (slots + N) Q (F0 m (pc + 3) ls (.ref (ad (j + 1)) :: rest))) : W p l e R s m args below meth c H locs cells slots Q (F0 m pc ls rest) := by
  obtain ⟨⟨hx, hb, hml, hown, hts⟩, hK, hJ, hZ, had, hA, hO⟩ := G
  obtain ⟨hP, hD, hS, hz, hd9⟩ := hw
  have hKn := hK.1 ci _ hc
  have ea : ad (j + 1) = H.size := by rw [had (j + 1) (by omega) hj, hz, Nat.add_sub_cancel]
  refine W.newcK hx hb hown (hts _ hcl) (hts _ hinst) (hts _ hini) rfl hdg hcells hslots hKn.2.1 rfl fun H1 kC hkC e1 z1 o1 => ?_
  have hk : ∀ (k : Nat) (x : Nat × va_E), (zk_w w j cA ad σ)[k]? = some x → H1[x.1]? = H[x.1]? := fun k x hx => o1 x.1 ((hP k x hx).lt)
  have k1 := kk H1 (by
    unfold zk_I
    rw [zk_push]
    refine ⟨(hP.kept hk).app (fun k x hx => ?_), hD.push hP ea (hA _ (by rw [ea, hz]; omega)), ⟨Nat.le_trans hS.1 (by omega), fun x h1 h2 => (o1 x (Nat.lt_of_lt_of_le h1 hS.1)).trans (hS.2.1 x h1 h2), hS.2.2⟩, by rw [z1, hz]; omega, zk_dm hd9 (by omega)⟩
    have hz1 : k < 1 := (List.getElem?_eq_some_iff.mp hx).1
    rw [show k = 0 by omega] at hx
    cases hx
    rw [zs_co hs]
    refine ⟨_, hc, ?_⟩
    show t_OB (ad (j + 1)) _ _ _ H1 _
    rw [ea]
    refine (u_born ty0 hts hin hKn hkC e1 hty).to (fun k hkN => ?_)
    rw [hdef k hkN]
    have hd8 := hd9 (j + 1) (by omega)
    rw [hd8.1, hd8.2.1, hd8.2.2]
    unfold vp_V
    rw [List.getD_eq_getElem?_getD, List.getElem?_map, List.getElem?_range (by rw [hN]; exact hkN)]
    rfl)
  rw [ea] at k1
  exact k1
theorem zk_ar {t n : Nat} (hs : zd_sh w (j + 1) = (t, n)) (ht : t < 10) (hd9 : zk_d j σ) : zs_c w cA ad σ (j + 1) = .inl (cA (j + 1), n, zs_a w ad (fun _ => 0) (fun _ => 0) (fun _ => 0) t (j + 1)) := by
  have hd8 := hd9 (j + 1) (by omega)
  rw [zs_ca (t := t) (n := n) (by rw [hs]) (by rw [hs]) ht, hd8.1, hd8.2.1, hd8.2.2]
theorem zk_grow (had : ∀ o, 1 ≤ o → o ≤ zd_M w → ad o = b + (o - 1)) (hA : ∀ q, b ≤ q → A q) (hw : zk_I w D cA ad A s b j σ H locs) (hj : j + 1 ≤ zd_M w) {H1 : Heap} (z1 : H1.size = H.size + 1) (o1 : ∀ q, q < H.size → H1[q]? = H[q]?) (hc : va_at D zd_cl (ad (j + 1), zs_c w cA ad σ (j + 1)) H1) : zk_I w D cA ad A s b (j + 1) σ H1 locs := by
  obtain ⟨hP, hD, hS, hz, hd9⟩ := hw
  have ea : ad (j + 1) = H.size := by rw [had (j + 1) (by omega) hj, hz, Nat.add_sub_cancel]
  have hk : ∀ (k : Nat) (x : Nat × va_E), (zk_w w j cA ad σ)[k]? = some x → H1[x.1]? = H[x.1]? := fun k x hx => o1 x.1 ((hP k x hx).lt)
  unfold zk_I
  rw [zk_push]
  refine ⟨(hP.kept hk).app (fun k x hx => ?_), hD.push hP ea (hA _ (by rw [ea, hz]; omega)), ⟨Nat.le_trans hS.1 (by omega), fun x h1 h2 => (o1 x (Nat.lt_of_lt_of_le h1 hS.1)).trans (hS.2.1 x h1 h2), hS.2.2⟩, by rw [z1, hz]; omega, zk_dm hd9 (by omega)⟩
  have hz1 : k < 1 := (List.getElem?_eq_some_iff.mp hx).1
  rw [show k = 0 by omega] at hx
  cases hx
  exact hc
theorem zk_newa (G : zk_G w p s m args c cc nL own D cA ad A b) (hw : zk_I w D cA ad A s b j σ H locs) {atype : ArrayType} {t N : Nat} {n : Int32} (harr : Cond.arrayClass (newarray.typeOf atype) ∈ zd_ww) (hs : zd_sh w (j + 1) = (t, N)) (ht : t < 4) (hty : newarray.typeOf atype = zd_ty t) (hj : j + 1 ≤ zd_M w) (hn : ¬ n < 0) (hN : n.toNatClampNeg = N) (hbytes : N * componentBytes (newarray.typeOf atype) ≤ 536870912) (hcells : cells + 1 ≤ R.cells) (hslots : slots + N ≤ R.slots) (hdg : decode cc pc = .ok (.newarray atype, 2)) (kk : ∀ (H1 : Heap), zk_I w D cA ad A s b (j + 1) σ H1 locs → W p l e R s m args below meth c H1 locs (cells + 1) (slots + N) Q (F0 m (pc + 2) ls (.ref (ad (j + 1)) :: rest))) : W p l e R s m args below meth c H locs cells slots Q (F0 m pc ls (.int n :: rest)) := by
  have G0 := G
  obtain ⟨⟨hx, hb, hml, hown, hts⟩, hK, hJ, hZ, had, hA, hO⟩ := G
  have hz := hw.2.2.2.1
  have hd9 := hw.2.2.2.2
  have ea : ad (j + 1) = H.size := by rw [had (j + 1) (by omega) hj, hz, Nat.add_sub_cancel]
  refine va_newaK hx hb (hts _ harr) rfl hdg rfl hn hN hbytes hcells hslots (h := H.size) rfl fun H1 cA' e1 z1 o1 hAr hNm => ?_
  have hL : j + 1 ∈ zd_L w := zd_in (t := t) (by rw [hs]) (by omega)
  obtain ⟨t0, ht0⟩ := zs_tg cA hL (t := t) (by rw [hs]) (by omega)
  have hRA := (hK.2 t0 _ ht0).2
  have ecA : cA' = cA (j + 1) := by
    rw [hty] at hNm
    have h2 : s.vm.findClass ("[" ++ (zd_ty t).toString) = some (cA (j + 1)) := by
      match t, ht with
      | 0, _ => exact hRA
      | 1, _ => exact hRA
      | 2, _ => exact hRA
      | 3, _ => exact hRA
    exact Option.some.inj (hNm.symm.trans h2)
  subst ecA
  have k1 := kk H1 (zk_grow had hA hw hj z1 o1 (by
    rw [zk_ar hs (by omega) hd9]
    show H1[ad (j + 1)]? = some (vp_cell _ _)
    rw [ea, e1, hty]
    match t, ht with
    | 0, _ => rw [show zs_a w ad (fun _ => 0) (fun _ => 0) (fun _ => 0) 0 (j + 1) = .inl (fun _ => 0) from rfl, vp_cell_i]; rfl
    | 1, _ => rw [show zs_a w ad (fun _ => 0) (fun _ => 0) (fun _ => 0) 1 (j + 1) = .inl (fun _ => 0) from rfl, vp_cell_i]; rfl
    | 2, _ => rw [show zs_a w ad (fun _ => 0) (fun _ => 0) (fun _ => 0) 2 (j + 1) = .inl (fun _ => 0) from rfl, vp_cell_i]; rfl
    | 3, _ => rw [show zs_a w ad (fun _ => 0) (fun _ => 0) (fun _ => 0) 3 (j + 1) = .inr (.inl (fun _ => 0)) from rfl, vp_cell_l]; rfl))
  rw [ea] at k1
  exact k1
theorem zk_newq (G : zk_G w p s m args c cc nL own D cA ad A b) (hw : zk_I w D cA ad A s b j σ H locs) {C : String} {t N index : Nat} {n : Int32} (hcl : Cond.classLink own index C ∈ zd_ww) (hover : va_AO C s) (hs : zd_sh w (j + 1) = (t, N)) (ht : t = 4 ∨ t = 7 ∨ t = 8) (hty : zd_ty t = .object C) (hj : j + 1 ≤ zd_M w) (hn : ¬ n < 0) (hN : n.toNatClampNeg = N) (hbytes : N * 4 ≤ 536870912) (hcells : cells + 1 ≤ R.cells) (hslots : slots + N ≤ R.slots) (hdg : decode cc pc = .ok (.anewarray index, 3)) (kk : ∀ (H1 : Heap), zk_I w D cA ad A s b (j + 1) σ H1 locs → W p l e R s m args below meth c H1 locs (cells + 1) (slots + N) Q (F0 m (pc + 3) ls (.ref (ad (j + 1)) :: rest))) : W p l e R s m args below meth c H locs cells slots Q (F0 m pc ls (.int n :: rest)) := by
  obtain ⟨⟨hx, hb, hml, hown, hts⟩, hK, hJ, hZ, had, hA, hO⟩ := G
  subst hN
  have hz := hw.2.2.2.1
  have hd9 := hw.2.2.2.2
  have ea : ad (j + 1) = H.size := by rw [had (j + 1) (by omega) hj, hz, Nat.add_sub_cancel]
  refine W.anew hx hb hown (hts _ hcl) (va_AO.use hover) rfl hdg rfl hn hbytes hcells hslots fun cA' kA comp f1 f2 f3 f4 => ?_
  generalize hH1 : H.push ({ cls := cA', slots := Array.replicate n.toNatClampNeg .null, vm := .none } : Cell) = H1
  have z1 : H1.size = H.size + 1 := by rw [← hH1, Array.size_push]
  have e1 : H1[H.size]? = some (arrV cA' n.toNatClampNeg (fun _ => .null)) := by rw [← hH1, Array.getElem?_push_size, ← arrV_new]
  have o1 : ∀ q : Nat, q < H.size → H1[q]? = H[q]? := fun q hq => by rw [← hH1, Array.getElem?_push, if_neg (Nat.ne_of_lt hq)]
  have hL : j + 1 ∈ zd_L w := zd_in (t := t) (by rw [hs]) (by omega)
  obtain ⟨t0, ht0⟩ := zs_tg cA hL (t := t) (by rw [hs]) (by omega)
  rw [hty] at ht0
  obtain ⟨kA2, comp2, g1, g2, g3, g4⟩ := (hK.2 t0 _ ht0).2
  have ecA : cA' = cA (j + 1) := Option.some.inj (f1.symm.trans g4)
  subst ecA
  have k1 := kk H1 (zk_grow had hA hw hj z1 o1 (by
    rw [zk_ar hs (by omega) hd9]
    show H1[ad (j + 1)]? = some (vp_cell _ _)
    rw [ea, e1]
    have ez : zs_a w ad (fun _ => 0) (fun _ => 0) (fun _ => 0) t (j + 1) = .inr (.inr (.inr (.inr (fun _ => none)))) := by
      rcases ht with rfl | rfl | rfl <;> rfl
    rw [ez, vp_cell_q]
    rfl))
  rw [ea] at k1
  exact k1
theorem zk_aast (G : zk_G w p s m args c cc nL own D cA ad A b) (hw : zk_I w D cA ad A s b j σ H locs) (o : Nat) (hjM : j < 1200) (ho : 1 ≤ o ∧ o ≤ j) {t n ci N x : Nat} {C : String} {T : u_T} {i : Int32} (hs : (zd_sh w o).1 = t) (hn : (zd_sh w o).2 = n) (ht : t = 7 ∨ t = 8) (hty : zd_ty t = .object C) (hx1 : 1 ≤ x ∧ x ≤ j) (hsx : (zd_sh w x).1 = 10 + ci) (hc : zd_cl[ci]? = some (C, T, N)) (hi : zq_b i n = true) (hdg : decode cc pc = .ok (.aastore, 1)) (kk : ∀ (H1 : Heap) (locs1 : List Loc), zk_I w D cA ad A s b j (zs_wr σ o i.toNatClampNeg x) H1 locs1 → W p l e R s m args below meth c H1 locs1 cells slots Q (F0 m (pc + 1) ls rest)) : W p l e R s m args below meth c H locs cells slots Q (F0 m pc ls (.ref (ad x) :: .int i :: .ref (ad o) :: rest)) := by
  obtain ⟨⟨hx, hb, hml, hown, hts⟩, hK, hJ, hZ, had, hA, hO⟩ := G
  obtain ⟨hP, hD, hS, hz, hd9⟩ := hw
  obtain ⟨q0, he0⟩ := zk_gt w cA ad σ ho.1 ho.2
  have he := he0
  rw [zs_ca hs hn (by omega)] at he
  have eA : ∀ (fr : Nat → Nat), zs_a w ad (zs_i σ o) (zs_l σ o) fr t o = .inr (.inr (.inr (.inr (fun k => zs_o ad (fr k))))) := by
    intro fr
    rcases ht with rfl | rfl <;> rfl
  rw [eA] at he
  have hL : o ∈ zd_L w := zd_in (t := t) hs (by omega)
  obtain ⟨t0, ht0⟩ := zs_tg cA hL (t := t) hs (by omega)
  rw [hty] at ht0
  obtain ⟨kA, comp, k1, k2, k3, -⟩ := (hK.2 t0 _ ht0).2
  obtain ⟨kE, hkE, -⟩ := Vm.findClass_spec k3
  obtain ⟨qx, hex⟩ := zk_gt w cA ad σ hx1.1 hx1.2
  rw [zs_co hsx] at hex
  obtain ⟨cellV, g1, g3, g2⟩ := va_recv hK hP hc hex
  obtain ⟨kC, hkC, -⟩ := Vm.findClass_spec g2
  have hin := zq_bs hi
  have hlt : i.toNatClampNeg < n := Nat.not_le.mp fun q => hin (Or.inr q)
  have h0 : ¬ i < 0 := fun q => hin (Or.inl q)
  refine W.aast hx hb (hP q0 _ he) (fun q h => by cases h) (fun h => by cases h) k1 k2 rfl hkE ⟨h0, by show _ < (arrV _ _ _).slots.size; rw [arrV_size]; exact hlt⟩ g1 (fun q h => by rw [h] at g3; cases g3) hkC (vb_asgS _ _ k3 g2) rfl rfl hdg fun H1 e1 z oq => ?_
  have hne : x ≠ 0 := by omega
  have e5 : (.inl (cA o, n, .inr (.inr (.inr (.inr (va_up (fun k => zs_o ad (zs_r σ o k)) i.toNatClampNeg (some (ad x))))))) : va_E) = zs_c w cA ad (zs_wr σ o i.toNatClampNeg x) o := by
    rw [zs_ca hs hn (by omega)]
    show _ = Sum.inl (cA o, n, zs_a w ad (zs_i σ o) (zs_l σ o) (zs_r (zs_wr σ o i.toNatClampNeg x) o) t o)
    rw [eA, zs_ru]
    refine congrArg (fun z => Sum.inl (cA o, n, Sum.inr (Sum.inr (Sum.inr (Sum.inr z))))) ?_
    funext q
    by_cases hq : q = i.toNatClampNeg
    · subst hq
      simp [va_up, zs_o_ne hne]
    · simp [va_up, hq]
  have hP1 := hP.set hD he (e := .inl (cA o, n, .inr (.inr (.inr (.inr (va_up (fun k => zs_o ad (zs_r σ o k)) i.toNatClampNeg (some (ad x)))))))) (by
    show H1[ad o]? = some (vp_cell _ _)
    rw [e1]
    rw [vp_cell_q, vp_cell_q, arrV_store]
    congr 2
    funext q
    by_cases hq : q = i.toNatClampNeg
    · subst hq
      simp [updV, va_up, va_rf]
    · simp [updV, va_up, hq]) oq
  have hD1 := hD.set (e := .inl (cA o, n, .inr (.inr (.inr (.inr (va_up (fun k => zs_o ad (zs_r σ o k)) i.toNatClampNeg (some (ad x)))))))) he
  have e9 := zk_set (σ' := zs_wr σ o i.toNatClampNeg x) hD he0 hJ hjM ho.2 e5 (fun b hb2 => zs_ch rfl rfl (zs_rn σ _ x hb2))
  rw [e9] at hP1 hD1
  exact kk H1 _ ⟨hP1, hD1, hS.put z oq (hD.2 q0 _ he), z.trans hz, zk_dw hd9 ho.2 _ x⟩
theorem zk_call {y : MethodName} {bytes : ByteArray} {maxL n index o j2 mc ms : Nat} {ws : List Cond} {rm : Room} {σ' : zs_S} (G : zk_G w p s m args c cc nL own D cA ad A b) (hw : zk_I w D cA ad A s b j σ H locs) (As : List Value) (hM : Met l y ws rm (va_Pc (.ref (ad o) :: As) (zk_U w D cA ad A b j σ)) (zk_Q w D cA ad A b j2 σ') mc ms A) (cw : CallB R s args own index y bytes maxL none ws rm mc ms n ∧ y.name = "<init>" ∧ (Cond.instanceMethod y).before args s = true) (hn : As.length = n) (hsz : ls.size = nL) (hroom : (rest.map fun v => v.category).sum ≤ 8) (hdg : decode cc pc = .ok (.invokespecial index, 3)) (hcs : cells + mc ≤ R.cells ∧ slots + ms ≤ R.slots) (kk : ∀ (H1 : Heap) (locs1 : List Loc), zk_I w D cA ad A s b j2 σ' H1 locs1 → W p l e R s m args below meth c H1 locs1 (cells + mc) (slots + ms) Q (F0 m (pc + 3) ls rest)) : W p l e R s m args below meth c H locs cells slots Q (F0 m pc ls (As.reverse ++ .ref (ad o) :: rest)) :=
  va_callv (va_runI (As := As) (rest := rest) G.1 hM cw ⟨zk_blind, fun U hU hW => ⟨rfl, zk_pre G hw U hU hW⟩⟩ rfl hn hsz rfl (lv_room hroom) hdg hcs) hw.2.2.1 (fun q _ h => h) (fun q h => h) (fun u t H1 locs1 ht hvm hp hB hz hk hS => by
    have h2 : u = σ' := hp
    subst h2
    exact kk H1 locs1 ⟨by rw [← ht]; exact hB.1, hB.2.2.1, hS, by rw [← ht]; exact hB.2.2.2.2.1, hB.2.2.2.2.2.1⟩)
theorem zk_vret (G : zk_G w p s m args c cc nL own D cA ad A b) (hw : zk_I w D cA ad A s b j σ H locs) (hr : meth.sig.returnType = none) (hlocks : meth.locks = false) (hQ : Q = MQ below (zk_Q w D cA ad A b j σ) args s cells slots A) (hdg : decode cc pc = .ok (.return_, 1)) : W p l e R s m args below meth c H locs cells slots Q (F0 m pc ls []) := by
  rw [hQ]
  exact W.vret G.1.1 G.1.2.1 hr (fun t ht hW => ⟨⟨σ, rfl, rfl, zk_pre G hw t ht hW⟩, hw.2.2.1.F ht⟩) hw.2.2.1.2.2 hdg hlocks
end ZKA
