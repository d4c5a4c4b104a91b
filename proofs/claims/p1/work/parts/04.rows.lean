section ZRA
variable {p : Program} {l : Launch} {e : Env} {R : Room} {s : State} {m : MethodId} {args : Array Value} {below : List Frame} {meth : Method} {c : Code} {H : Heap} {locs : List Loc} {cells slots : Nat} {Q : State → Prop}
variable {cc : ByteArray} {w nL pc : Nat} {ls : Array Slot} {rest : List Value} {D : va_G} {cA : Nat → ClassId} {ad : Nat → Nat} {A : Nat → Prop} {σ : zs_S} {own : String}
theorem zr_get (G : zs_G w p s m args c cc nL own D cA ad A) (hw : zs_I w D cA ad A s σ H locs) {ref C : String} {T : u_T} {N ci index : Nat} (o k : Nat) (hin : ∀ w ∈ u_ws C T N, w ∈ zd_ww) (hs : (zd_sh w o).1 = 10 + ci) (hc : zd_cl[ci]? = some (C, T, N)) (hN : zd_N ci = N) (hk : k < N) (hlink : Cond.fieldLink own index ref (T k).2.1 (T k).2.2.1 ∈ zd_ww) (hsame : ∀ x, s.fieldFound? (T k).1 (T k).2.1 (T k).2.2.1 = some x → s.fieldFound? ref (T k).2.1 (T k).2.2.1 = some x) {v : Value} (hv : zs_f w ad (zs_i σ o) (zs_l σ o) (zs_r σ o) ci o k = v) (hdg : decode cc pc = .ok (.getfield index, 3)) (kk : W p l e R s m args below meth c H locs cells slots Q (F0 m (pc + 3) ls (v :: rest))) : W p l e R s m args below meth c H locs cells slots Q (F0 m pc ls (.ref (ad o) :: rest)) := by
  obtain ⟨⟨hx, hb, hml, hown, hts⟩, hK, hJ, hZ⟩ := G
  obtain ⟨q0, he⟩ := zs_get w cA ad σ (zd_in hs (zd_lt hc))
  rw [zs_co hs] at he
  exact va_get hx hb hts hin hown hK hw.1 q0 he hc k hk (hts _ hlink) hsame (v := v) (by rw [List.getElem?_map, List.getElem?_range (by rw [hN]; exact hk)]; show some _ = some v; rw [hv]) hdg kk
theorem zr_getN (G : zs_G w p s m args c cc nL own D cA ad A) (hw : zs_I w D cA ad A s σ H locs) {ref C host : String} {T : u_T} {N ci index : Nat} (o k : Nat) (hin : ∀ w ∈ u_ws C T N, w ∈ zd_ww) (hs : (zd_sh w o).1 = 10 + ci) (hc : zd_cl[ci]? = some (C, T, N)) (hN : zd_N ci = N) (hk : k < N) (hlink : Cond.fieldLinkNest own index ref (T k).2.1 (T k).2.2.1 host ∈ zd_ww) (hsame : ∀ x, s.fieldFound? (T k).1 (T k).2.1 (T k).2.2.1 = some x → s.fieldFound? ref (T k).2.1 (T k).2.2.1 = some x) {v : Value} (hv : zs_f w ad (zs_i σ o) (zs_l σ o) (zs_r σ o) ci o k = v) (hdg : decode cc pc = .ok (.getfield index, 3)) (kk : W p l e R s m args below meth c H locs cells slots Q (F0 m (pc + 3) ls (v :: rest))) : W p l e R s m args below meth c H locs cells slots Q (F0 m pc ls (.ref (ad o) :: rest)) := by
  obtain ⟨⟨hx, hb, hml, hown, hts⟩, hK, hJ, hZ⟩ := G
  obtain ⟨q0, he⟩ := zs_get w cA ad σ (zd_in hs (zd_lt hc))
  rw [zs_co hs] at he
  exact va_getN hx hb hts hin hown hK hw.1 q0 he hc k hk (hts _ hlink) hsame (v := v) (by rw [List.getElem?_map, List.getElem?_range (by rw [hN]; exact hk)]; show some _ = some v; rw [hv]) hdg kk
theorem zr_puti (G : zs_G w p s m args c cc nL own D cA ad A) (hw : zs_I w D cA ad A s σ H locs) {ref C : String} {T : u_T} {N ci index : Nat} (o k : Nat) (hin : ∀ w ∈ u_ws C T N, w ∈ zd_ww) (ty0 : Nat → FieldType) (hty : ∀ k, k < N → parseFieldDescriptor (T k).2.2.1 = some (ty0 k)) (hnm : ∀ a, a < N → ∀ b, b < N → a ≠ b → (T a).2.1 ≠ (T b).2.1) (hs : (zd_sh w o).1 = 10 + ci) (hc : zd_cl[ci]? = some (C, T, N)) (hN : zd_N ci = N) (hk : k < N) (hft : zd_ft w ci k = 0) (hlink : Cond.fieldLink own index ref (T k).2.1 (T k).2.2.1 ∈ zd_ww) (hsame : ∀ x, s.fieldFound? (T k).1 (T k).2.1 (T k).2.2.1 = some x → s.fieldFound? ref (T k).2.1 (T k).2.2.1 = some x) (hfin : (T k).2.2.2 = false) {ty : FieldType} {x : Int32} (hd : parseFieldDescriptor (T k).2.2.1 = some ty) (hn : narrow ty (.int x) = .int x) (hfit : fits ty (.int x) = true) (hdg : decode cc pc = .ok (.putfield index, 3)) (kk : ∀ (H1 : Heap) (locs1 : List Loc), zs_I w D cA ad A s (zs_wi σ o k x) H1 locs1 → W p l e R s m args below meth c H1 locs1 cells slots Q (F0 m (pc + 3) ls (rest))) : W p l e R s m args below meth c H locs cells slots Q (F0 m pc ls (.int x :: .ref (ad o) :: rest)) := by
  obtain ⟨⟨hx, hb, hml, hown, hts⟩, hK, hJ, hZ⟩ := G
  obtain ⟨hP, hD, hS⟩ := hw
  obtain ⟨q0, he⟩ := zs_get w cA ad σ (zd_in hs (zd_lt hc))
  have he' := he
  rw [zs_co hs] at he'
  refine va_put hx hb hts hin ty0 hty hnm hown hK hP hD hS q0 he' hc k hk (hts _ hlink) hsame hfin hd hn hfit (by rw [List.length_map, List.length_range, hN]; exact hk) hdg (fun H1 locs1 hP1 hD1 hS1 => ?_)
  have e2 : (zs_w w cA ad σ).set q0 (ad o, .inr (ci, ((List.range (zd_N ci)).map (zs_f w ad (zs_i σ o) (zs_l σ o) (zs_r σ o) ci o)).set k (.int x))) = zs_w w cA ad (zs_wi σ o k x) := by
    refine zs_set hD he hJ (zd_in hs (zd_lt hc)) ?_ (fun b hb2 => zs_ch (zs_in σ k x hb2) rfl rfl)
    rw [zs_co hs]
    refine congrArg (fun z => Sum.inr (ci, z)) (zs_ms _ _ _ k _ ?_ ?_)
    · unfold zs_f
      rw [hft, zs_iu]
      simp [upd]
    · intro j hj
      have e1 : upd (zs_i σ o) k x j = zs_i σ o j := by simp [upd, hj]
      unfold zs_f
      rw [zs_iu, e1]
      rfl
  rw [e2] at hP1 hD1
  exact kk H1 locs1 ⟨hP1, hD1, hS1⟩
theorem zr_putiN (G : zs_G w p s m args c cc nL own D cA ad A) (hw : zs_I w D cA ad A s σ H locs) {ref C host : String} {T : u_T} {N ci index : Nat} (o k : Nat) (hin : ∀ w ∈ u_ws C T N, w ∈ zd_ww) (ty0 : Nat → FieldType) (hty : ∀ k, k < N → parseFieldDescriptor (T k).2.2.1 = some (ty0 k)) (hnm : ∀ a, a < N → ∀ b, b < N → a ≠ b → (T a).2.1 ≠ (T b).2.1) (hs : (zd_sh w o).1 = 10 + ci) (hc : zd_cl[ci]? = some (C, T, N)) (hN : zd_N ci = N) (hk : k < N) (hft : zd_ft w ci k = 0) (hlink : Cond.fieldLinkNest own index ref (T k).2.1 (T k).2.2.1 host ∈ zd_ww) (hsame : ∀ x, s.fieldFound? (T k).1 (T k).2.1 (T k).2.2.1 = some x → s.fieldFound? ref (T k).2.1 (T k).2.2.1 = some x) (hfin : (T k).2.2.2 = false) {ty : FieldType} {x : Int32} (hd : parseFieldDescriptor (T k).2.2.1 = some ty) (hn : narrow ty (.int x) = .int x) (hfit : fits ty (.int x) = true) (hdg : decode cc pc = .ok (.putfield index, 3)) (kk : ∀ (H1 : Heap) (locs1 : List Loc), zs_I w D cA ad A s (zs_wi σ o k x) H1 locs1 → W p l e R s m args below meth c H1 locs1 cells slots Q (F0 m (pc + 3) ls (rest))) : W p l e R s m args below meth c H locs cells slots Q (F0 m pc ls (.int x :: .ref (ad o) :: rest)) := by
  obtain ⟨⟨hx, hb, hml, hown, hts⟩, hK, hJ, hZ⟩ := G
  obtain ⟨hP, hD, hS⟩ := hw
  obtain ⟨q0, he⟩ := zs_get w cA ad σ (zd_in hs (zd_lt hc))
  have he' := he
  rw [zs_co hs] at he'
  refine va_putN hx hb hts hin ty0 hty hnm hown hK hP hD hS q0 he' hc k hk (hts _ hlink) hsame hfin hd hn hfit (by rw [List.length_map, List.length_range, hN]; exact hk) hdg (fun H1 locs1 hP1 hD1 hS1 => ?_)
  have e2 : (zs_w w cA ad σ).set q0 (ad o, .inr (ci, ((List.range (zd_N ci)).map (zs_f w ad (zs_i σ o) (zs_l σ o) (zs_r σ o) ci o)).set k (.int x))) = zs_w w cA ad (zs_wi σ o k x) := by
    refine zs_set hD he hJ (zd_in hs (zd_lt hc)) ?_ (fun b hb2 => zs_ch (zs_in σ k x hb2) rfl rfl)
    rw [zs_co hs]
    refine congrArg (fun z => Sum.inr (ci, z)) (zs_ms _ _ _ k _ ?_ ?_)
    · unfold zs_f
      rw [hft, zs_iu]
      simp [upd]
    · intro j hj
      have e1 : upd (zs_i σ o) k x j = zs_i σ o j := by simp [upd, hj]
      unfold zs_f
      rw [zs_iu, e1]
      rfl
  rw [e2] at hP1 hD1
  exact kk H1 locs1 ⟨hP1, hD1, hS1⟩
theorem zr_putr (G : zs_G w p s m args c cc nL own D cA ad A) (hw : zs_I w D cA ad A s σ H locs) {ref C : String} {T : u_T} {N ci index : Nat} (o k : Nat) (hin : ∀ w ∈ u_ws C T N, w ∈ zd_ww) (ty0 : Nat → FieldType) (hty : ∀ k, k < N → parseFieldDescriptor (T k).2.2.1 = some (ty0 k)) (hnm : ∀ a, a < N → ∀ b, b < N → a ≠ b → (T a).2.1 ≠ (T b).2.1) (hs : (zd_sh w o).1 = 10 + ci) (hc : zd_cl[ci]? = some (C, T, N)) (hN : zd_N ci = N) (hk : k < N) (hft : zd_ft w ci k = 2) (hlink : Cond.fieldLink own index ref (T k).2.1 (T k).2.2.1 ∈ zd_ww) (hsame : ∀ x, s.fieldFound? (T k).1 (T k).2.1 (T k).2.2.1 = some x → s.fieldFound? ref (T k).2.1 (T k).2.2.1 = some x) (hfin : (T k).2.2.2 = false) {ty : FieldType} {x : Nat} (hq : x ≠ 0) (hd : parseFieldDescriptor (T k).2.2.1 = some ty) (hn : narrow ty (.ref (ad x)) = .ref (ad x)) (hfit : fits ty (.ref (ad x)) = true) (hdg : decode cc pc = .ok (.putfield index, 3)) (kk : ∀ (H1 : Heap) (locs1 : List Loc), zs_I w D cA ad A s (zs_wr σ o k x) H1 locs1 → W p l e R s m args below meth c H1 locs1 cells slots Q (F0 m (pc + 3) ls (rest))) : W p l e R s m args below meth c H locs cells slots Q (F0 m pc ls (.ref (ad x) :: .ref (ad o) :: rest)) := by
  obtain ⟨⟨hx, hb, hml, hown, hts⟩, hK, hJ, hZ⟩ := G
  obtain ⟨hP, hD, hS⟩ := hw
  obtain ⟨q0, he⟩ := zs_get w cA ad σ (zd_in hs (zd_lt hc))
  have he' := he
  rw [zs_co hs] at he'
  refine va_put hx hb hts hin ty0 hty hnm hown hK hP hD hS q0 he' hc k hk (hts _ hlink) hsame hfin hd hn hfit (by rw [List.length_map, List.length_range, hN]; exact hk) hdg (fun H1 locs1 hP1 hD1 hS1 => ?_)
  have e2 : (zs_w w cA ad σ).set q0 (ad o, .inr (ci, ((List.range (zd_N ci)).map (zs_f w ad (zs_i σ o) (zs_l σ o) (zs_r σ o) ci o)).set k (.ref (ad x)))) = zs_w w cA ad (zs_wr σ o k x) := by
    refine zs_set hD he hJ (zd_in hs (zd_lt hc)) ?_ (fun b hb2 => zs_ch rfl rfl (zs_rn σ k x hb2))
    rw [zs_co hs]
    refine congrArg (fun z => Sum.inr (ci, z)) (zs_ms _ _ _ k _ ?_ ?_)
    · unfold zs_f
      rw [hft, zs_ru]
      simp [va_up, zs_o_ne hq, va_rf]
    · intro j hj
      have e1 : va_up (zs_r σ o) k x j = zs_r σ o j := by simp [va_up, hj]
      unfold zs_f
      rw [zs_ru, e1]
      rfl
  rw [e2] at hP1 hD1
  exact kk H1 locs1 ⟨hP1, hD1, hS1⟩
theorem zr_putrN (G : zs_G w p s m args c cc nL own D cA ad A) (hw : zs_I w D cA ad A s σ H locs) {ref C host : String} {T : u_T} {N ci index : Nat} (o k : Nat) (hin : ∀ w ∈ u_ws C T N, w ∈ zd_ww) (ty0 : Nat → FieldType) (hty : ∀ k, k < N → parseFieldDescriptor (T k).2.2.1 = some (ty0 k)) (hnm : ∀ a, a < N → ∀ b, b < N → a ≠ b → (T a).2.1 ≠ (T b).2.1) (hs : (zd_sh w o).1 = 10 + ci) (hc : zd_cl[ci]? = some (C, T, N)) (hN : zd_N ci = N) (hk : k < N) (hft : zd_ft w ci k = 2) (hlink : Cond.fieldLinkNest own index ref (T k).2.1 (T k).2.2.1 host ∈ zd_ww) (hsame : ∀ x, s.fieldFound? (T k).1 (T k).2.1 (T k).2.2.1 = some x → s.fieldFound? ref (T k).2.1 (T k).2.2.1 = some x) (hfin : (T k).2.2.2 = false) {ty : FieldType} {x : Nat} (hq : x ≠ 0) (hd : parseFieldDescriptor (T k).2.2.1 = some ty) (hn : narrow ty (.ref (ad x)) = .ref (ad x)) (hfit : fits ty (.ref (ad x)) = true) (hdg : decode cc pc = .ok (.putfield index, 3)) (kk : ∀ (H1 : Heap) (locs1 : List Loc), zs_I w D cA ad A s (zs_wr σ o k x) H1 locs1 → W p l e R s m args below meth c H1 locs1 cells slots Q (F0 m (pc + 3) ls (rest))) : W p l e R s m args below meth c H locs cells slots Q (F0 m pc ls (.ref (ad x) :: .ref (ad o) :: rest)) := by
  obtain ⟨⟨hx, hb, hml, hown, hts⟩, hK, hJ, hZ⟩ := G
  obtain ⟨hP, hD, hS⟩ := hw
  obtain ⟨q0, he⟩ := zs_get w cA ad σ (zd_in hs (zd_lt hc))
  have he' := he
  rw [zs_co hs] at he'
  refine va_putN hx hb hts hin ty0 hty hnm hown hK hP hD hS q0 he' hc k hk (hts _ hlink) hsame hfin hd hn hfit (by rw [List.length_map, List.length_range, hN]; exact hk) hdg (fun H1 locs1 hP1 hD1 hS1 => ?_)
  have e2 : (zs_w w cA ad σ).set q0 (ad o, .inr (ci, ((List.range (zd_N ci)).map (zs_f w ad (zs_i σ o) (zs_l σ o) (zs_r σ o) ci o)).set k (.ref (ad x)))) = zs_w w cA ad (zs_wr σ o k x) := by
    refine zs_set hD he hJ (zd_in hs (zd_lt hc)) ?_ (fun b hb2 => zs_ch rfl rfl (zs_rn σ k x hb2))
    rw [zs_co hs]
    refine congrArg (fun z => Sum.inr (ci, z)) (zs_ms _ _ _ k _ ?_ ?_)
    · unfold zs_f
      rw [hft, zs_ru]
      simp [va_up, zs_o_ne hq, va_rf]
    · intro j hj
      have e1 : va_up (zs_r σ o) k x j = zs_r σ o j := by simp [va_up, hj]
      unfold zs_f
      rw [zs_ru, e1]
      rfl
  rw [e2] at hP1 hD1
  exact kk H1 locs1 ⟨hP1, hD1, hS1⟩
theorem zr_iald (G : zs_G w p s m args c cc nL own D cA ad A) (hw : zs_I w D cA ad A s σ H locs) (o : Nat) {n : Nat} (hs : (zd_sh w o).1 = 0) (hn : (zd_sh w o).2 = n) {i : Int32} (hi : zq_b i n = true) (hdg : decode cc pc = .ok (.iaload, 1)) (kk : W p l e R s m args below meth c H locs cells slots Q (F0 m (pc + 1) ls (.int (zs_i σ o i.toNatClampNeg) :: rest))) : W p l e R s m args below meth c H locs cells slots Q (F0 m pc ls (.int i :: .ref (ad o) :: rest)) := by
  obtain ⟨⟨hx, hb, hml, hown, hts⟩, hK, hJ, hZ⟩ := G
  have hL := zd_in hs (by decide)
  obtain ⟨q0, he⟩ := zs_get w cA ad σ hL
  rw [zs_ca hs hn (by decide)] at he
  obtain ⟨t0, ht⟩ := zs_tg cA hL hs (by decide)
  have he : (zs_w w cA ad σ)[q0]? = some (ad o, .inl (cA o, n, .inl (zs_i σ o))) := he
  exact va_iald hx hb hK hw.1 q0 t0 he ht (zq_bs hi) hdg kk
theorem zr_bald (G : zs_G w p s m args c cc nL own D cA ad A) (hw : zs_I w D cA ad A s σ H locs) (o : Nat) {n : Nat} (hs : (zd_sh w o).1 = 1) (hn : (zd_sh w o).2 = n) {i : Int32} (hi : zq_b i n = true) (hdg : decode cc pc = .ok (.baload, 1)) (kk : W p l e R s m args below meth c H locs cells slots Q (F0 m (pc + 1) ls (.int (zs_i σ o i.toNatClampNeg) :: rest))) : W p l e R s m args below meth c H locs cells slots Q (F0 m pc ls (.int i :: .ref (ad o) :: rest)) := by
  obtain ⟨⟨hx, hb, hml, hown, hts⟩, hK, hJ, hZ⟩ := G
  have hL := zd_in hs (by decide)
  obtain ⟨q0, he⟩ := zs_get w cA ad σ hL
  rw [zs_ca hs hn (by decide)] at he
  obtain ⟨t0, ht⟩ := zs_tg cA hL hs (by decide)
  have he : (zs_w w cA ad σ)[q0]? = some (ad o, .inl (cA o, n, .inl (zs_i σ o))) := he
  exact va_bald hx hb hK hw.1 q0 t0 he ht (zq_bs hi) hdg kk
theorem zr_zald (G : zs_G w p s m args c cc nL own D cA ad A) (hw : zs_I w D cA ad A s σ H locs) (o : Nat) {n : Nat} (hs : (zd_sh w o).1 = 2) (hn : (zd_sh w o).2 = n) {i : Int32} (hi : zq_b i n = true) (hdg : decode cc pc = .ok (.baload, 1)) (kk : W p l e R s m args below meth c H locs cells slots Q (F0 m (pc + 1) ls (.int (zs_i σ o i.toNatClampNeg) :: rest))) : W p l e R s m args below meth c H locs cells slots Q (F0 m pc ls (.int i :: .ref (ad o) :: rest)) := by
  obtain ⟨⟨hx, hb, hml, hown, hts⟩, hK, hJ, hZ⟩ := G
  have hL := zd_in hs (by decide)
  obtain ⟨q0, he⟩ := zs_get w cA ad σ hL
  rw [zs_ca hs hn (by decide)] at he
  obtain ⟨t0, ht⟩ := zs_tg cA hL hs (by decide)
  have he : (zs_w w cA ad σ)[q0]? = some (ad o, .inl (cA o, n, .inl (zs_i σ o))) := he
  exact va_zald hx hb hK hw.1 q0 t0 he ht (zq_bs hi) hdg kk
theorem zr_lald (G : zs_G w p s m args c cc nL own D cA ad A) (hw : zs_I w D cA ad A s σ H locs) (o : Nat) {n : Nat} (hs : (zd_sh w o).1 = 3) (hn : (zd_sh w o).2 = n) {i : Int32} (hi : zq_b i n = true) (hdg : decode cc pc = .ok (.laload, 1)) (kk : W p l e R s m args below meth c H locs cells slots Q (F0 m (pc + 1) ls (.long (zs_l σ o i.toNatClampNeg) :: rest))) : W p l e R s m args below meth c H locs cells slots Q (F0 m pc ls (.int i :: .ref (ad o) :: rest)) := by
  obtain ⟨⟨hx, hb, hml, hown, hts⟩, hK, hJ, hZ⟩ := G
  have hL := zd_in hs (by decide)
  obtain ⟨q0, he⟩ := zs_get w cA ad σ hL
  rw [zs_ca hs hn (by decide)] at he
  obtain ⟨t0, ht⟩ := zs_tg cA hL hs (by decide)
  have he : (zs_w w cA ad σ)[q0]? = some (ad o, .inl (cA o, n, .inr (.inl (zs_l σ o)))) := he
  exact va_lald hx hb hK hw.1 q0 t0 he ht (zq_bs hi) hdg kk
theorem zr_aald (G : zs_G w p s m args c cc nL own D cA ad A) (hw : zs_I w D cA ad A s σ H locs) (o : Nat) {n : Nat} (hs : (zd_sh w o).1 = 4) (hn : (zd_sh w o).2 = n) {i : Int32} (hi : zq_b i n = true) (hq : zs_r σ o i.toNatClampNeg ≠ 0) (hdg : decode cc pc = .ok (.aaload, 1)) (kk : W p l e R s m args below meth c H locs cells slots Q (F0 m (pc + 1) ls (.ref (ad (zs_r σ o i.toNatClampNeg)) :: rest))) : W p l e R s m args below meth c H locs cells slots Q (F0 m pc ls (.int i :: .ref (ad o) :: rest)) := by
  obtain ⟨⟨hx, hb, hml, hown, hts⟩, hK, hJ, hZ⟩ := G
  have hL := zd_in hs (by decide)
  obtain ⟨q0, he⟩ := zs_get w cA ad σ hL
  rw [zs_ca hs hn (by decide)] at he
  obtain ⟨t0, ht⟩ := zs_tg cA hL hs (by decide)
  have he : (zs_w w cA ad σ)[q0]? = some (ad o, .inl (cA o, n, .inr (.inr (.inr (.inr (fun k => zs_o ad (zs_r σ o k))))))) := he
  exact va_aldq hx hb hK hw.1 q0 t0 he ht (zq_bs hi) hdg (by show W p l e R s m args below meth c H locs cells slots Q (F0 m (pc + 1) ls (va_rf (zs_o ad (zs_r σ o i.toNatClampNeg)) :: rest)); rw [zs_o_ne hq]; exact kk)
theorem zr_aald5 (G : zs_G w p s m args c cc nL own D cA ad A) (hw : zs_I w D cA ad A s σ H locs) (o : Nat) {n : Nat} (hs : (zd_sh w o).1 = 5) (hn : (zd_sh w o).2 = n) {i : Int32} (hi : zq_b i n = true) (hq : zd_rf w o i.toNatClampNeg ≠ 0) (hdg : decode cc pc = .ok (.aaload, 1)) (kk : W p l e R s m args below meth c H locs cells slots Q (F0 m (pc + 1) ls (.ref (ad (zd_rf w o i.toNatClampNeg)) :: rest))) : W p l e R s m args below meth c H locs cells slots Q (F0 m pc ls (.int i :: .ref (ad o) :: rest)) := by
  obtain ⟨⟨hx, hb, hml, hown, hts⟩, hK, hJ, hZ⟩ := G
  have hL := zd_in hs (by decide)
  obtain ⟨q0, he⟩ := zs_get w cA ad σ hL
  rw [zs_ca hs hn (by decide)] at he
  obtain ⟨t0, ht⟩ := zs_tg cA hL hs (by decide)
  have he : (zs_w w cA ad σ)[q0]? = some (ad o, .inl (cA o, n, .inr (.inr (.inr (.inr (fun k => zs_o ad (zd_rf w o k))))))) := he
  exact va_aldq hx hb hK hw.1 q0 t0 he ht (zq_bs hi) hdg (by show W p l e R s m args below meth c H locs cells slots Q (F0 m (pc + 1) ls (va_rf (zs_o ad (zd_rf w o i.toNatClampNeg)) :: rest)); rw [zs_o_ne hq]; exact kk)
theorem zr_aald6 (G : zs_G w p s m args c cc nL own D cA ad A) (hw : zs_I w D cA ad A s σ H locs) (o : Nat) {n : Nat} (hs : (zd_sh w o).1 = 6) (hn : (zd_sh w o).2 = n) {i : Int32} (hi : zq_b i n = true) (hq : zd_rf w o i.toNatClampNeg ≠ 0) (hdg : decode cc pc = .ok (.aaload, 1)) (kk : W p l e R s m args below meth c H locs cells slots Q (F0 m (pc + 1) ls (.ref (ad (zd_rf w o i.toNatClampNeg)) :: rest))) : W p l e R s m args below meth c H locs cells slots Q (F0 m pc ls (.int i :: .ref (ad o) :: rest)) := by
  obtain ⟨⟨hx, hb, hml, hown, hts⟩, hK, hJ, hZ⟩ := G
  have hL := zd_in hs (by decide)
  obtain ⟨q0, he⟩ := zs_get w cA ad σ hL
  rw [zs_ca hs hn (by decide)] at he
  obtain ⟨t0, ht⟩ := zs_tg cA hL hs (by decide)
  have he : (zs_w w cA ad σ)[q0]? = some (ad o, .inl (cA o, n, .inr (.inr (.inr (.inr (fun k => zs_o ad (zd_rf w o k))))))) := he
  exact va_aldq hx hb hK hw.1 q0 t0 he ht (zq_bs hi) hdg (by show W p l e R s m args below meth c H locs cells slots Q (F0 m (pc + 1) ls (va_rf (zs_o ad (zd_rf w o i.toNatClampNeg)) :: rest)); rw [zs_o_ne hq]; exact kk)
theorem zr_iast (G : zs_G w p s m args c cc nL own D cA ad A) (hw : zs_I w D cA ad A s σ H locs) (o : Nat) {n : Nat} (hs : (zd_sh w o).1 = 0) (hn : (zd_sh w o).2 = n) {i : Int32} {x : Int32} (hi : zq_b i n = true) (hdg : decode cc pc = .ok (.iastore, 1)) (kk : ∀ (H1 : Heap) (locs1 : List Loc), zs_I w D cA ad A s (zs_wi σ o i.toNatClampNeg x) H1 locs1 → W p l e R s m args below meth c H1 locs1 cells slots Q (F0 m (pc + 1) ls (rest))) : W p l e R s m args below meth c H locs cells slots Q (F0 m pc ls (.int x :: .int i :: .ref (ad o) :: rest)) := by
  obtain ⟨⟨hx, hb, hml, hown, hts⟩, hK, hJ, hZ⟩ := G
  obtain ⟨hP, hD, hS⟩ := hw
  have hL := zd_in hs (by decide)
  obtain ⟨q0, he⟩ := zs_get w cA ad σ hL
  have he' := he
  rw [zs_ca hs hn (by decide)] at he'
  obtain ⟨t0, ht⟩ := zs_tg cA hL hs (by decide)
  have he' : (zs_w w cA ad σ)[q0]? = some (ad o, .inl (cA o, n, .inl (zs_i σ o))) := he'
  refine va_iast hx hb hK hP hD hS q0 t0 he' ht (zq_bs hi) hdg (fun H1 locs1 hP1 hD1 hS1 => ?_)
  have e2 : (zs_w w cA ad σ).set q0 (ad o, .inl (cA o, n, .inl (upd (zs_i σ o) i.toNatClampNeg x))) = zs_w w cA ad (zs_wi σ o i.toNatClampNeg x) := by
    refine zs_set hD he hJ hL ?_ (fun b hb2 => zs_ch (zs_in σ _ _ hb2) rfl rfl)
    rw [zs_ca hs hn (by decide)]
    rw [zs_iu]
    rfl
  rw [e2] at hP1 hD1
  exact kk H1 locs1 ⟨hP1, hD1, hS1⟩
theorem zr_bast (G : zs_G w p s m args c cc nL own D cA ad A) (hw : zs_I w D cA ad A s σ H locs) (o : Nat) {n : Nat} (hs : (zd_sh w o).1 = 1) (hn : (zd_sh w o).2 = n) {i : Int32} {x : Int32} (hi : zq_b i n = true) (hdg : decode cc pc = .ok (.bastore, 1)) (kk : ∀ (H1 : Heap) (locs1 : List Loc), zs_I w D cA ad A s (zs_wi σ o i.toNatClampNeg (vp_nar .byte x)) H1 locs1 → W p l e R s m args below meth c H1 locs1 cells slots Q (F0 m (pc + 1) ls (rest))) : W p l e R s m args below meth c H locs cells slots Q (F0 m pc ls (.int x :: .int i :: .ref (ad o) :: rest)) := by
  obtain ⟨⟨hx, hb, hml, hown, hts⟩, hK, hJ, hZ⟩ := G
  obtain ⟨hP, hD, hS⟩ := hw
  have hL := zd_in hs (by decide)
  obtain ⟨q0, he⟩ := zs_get w cA ad σ hL
  have he' := he
  rw [zs_ca hs hn (by decide)] at he'
  obtain ⟨t0, ht⟩ := zs_tg cA hL hs (by decide)
  have he' : (zs_w w cA ad σ)[q0]? = some (ad o, .inl (cA o, n, .inl (zs_i σ o))) := he'
  refine va_bast hx hb hK hP hD hS q0 t0 he' ht (zq_bs hi) hdg (fun H1 locs1 hP1 hD1 hS1 => ?_)
  have e2 : (zs_w w cA ad σ).set q0 (ad o, .inl (cA o, n, .inl (upd (zs_i σ o) i.toNatClampNeg (vp_nar .byte x)))) = zs_w w cA ad (zs_wi σ o i.toNatClampNeg (vp_nar .byte x)) := by
    refine zs_set hD he hJ hL ?_ (fun b hb2 => zs_ch (zs_in σ _ _ hb2) rfl rfl)
    rw [zs_ca hs hn (by decide)]
    rw [zs_iu]
    rfl
  rw [e2] at hP1 hD1
  exact kk H1 locs1 ⟨hP1, hD1, hS1⟩
theorem zr_zast (G : zs_G w p s m args c cc nL own D cA ad A) (hw : zs_I w D cA ad A s σ H locs) (o : Nat) {n : Nat} (hs : (zd_sh w o).1 = 2) (hn : (zd_sh w o).2 = n) {i : Int32} {x : Int32} (hi : zq_b i n = true) (hdg : decode cc pc = .ok (.bastore, 1)) (kk : ∀ (H1 : Heap) (locs1 : List Loc), zs_I w D cA ad A s (zs_wi σ o i.toNatClampNeg (vp_nar .boolean x)) H1 locs1 → W p l e R s m args below meth c H1 locs1 cells slots Q (F0 m (pc + 1) ls (rest))) : W p l e R s m args below meth c H locs cells slots Q (F0 m pc ls (.int x :: .int i :: .ref (ad o) :: rest)) := by
  obtain ⟨⟨hx, hb, hml, hown, hts⟩, hK, hJ, hZ⟩ := G
  obtain ⟨hP, hD, hS⟩ := hw
  have hL := zd_in hs (by decide)
  obtain ⟨q0, he⟩ := zs_get w cA ad σ hL
  have he' := he
  rw [zs_ca hs hn (by decide)] at he'
  obtain ⟨t0, ht⟩ := zs_tg cA hL hs (by decide)
  have he' : (zs_w w cA ad σ)[q0]? = some (ad o, .inl (cA o, n, .inl (zs_i σ o))) := he'
  refine va_zast hx hb hK hP hD hS q0 t0 he' ht (zq_bs hi) hdg (fun H1 locs1 hP1 hD1 hS1 => ?_)
  have e2 : (zs_w w cA ad σ).set q0 (ad o, .inl (cA o, n, .inl (upd (zs_i σ o) i.toNatClampNeg (vp_nar .boolean x)))) = zs_w w cA ad (zs_wi σ o i.toNatClampNeg (vp_nar .boolean x)) := by
    refine zs_set hD he hJ hL ?_ (fun b hb2 => zs_ch (zs_in σ _ _ hb2) rfl rfl)
    rw [zs_ca hs hn (by decide)]
    rw [zs_iu]
    rfl
  rw [e2] at hP1 hD1
  exact kk H1 locs1 ⟨hP1, hD1, hS1⟩
theorem zr_last (G : zs_G w p s m args c cc nL own D cA ad A) (hw : zs_I w D cA ad A s σ H locs) (o : Nat) {n : Nat} (hs : (zd_sh w o).1 = 3) (hn : (zd_sh w o).2 = n) {i : Int32} {x : Int64} (hi : zq_b i n = true) (hdg : decode cc pc = .ok (.lastore, 1)) (kk : ∀ (H1 : Heap) (locs1 : List Loc), zs_I w D cA ad A s (zs_wl σ o i.toNatClampNeg x) H1 locs1 → W p l e R s m args below meth c H1 locs1 cells slots Q (F0 m (pc + 1) ls (rest))) : W p l e R s m args below meth c H locs cells slots Q (F0 m pc ls (.long x :: .int i :: .ref (ad o) :: rest)) := by
  obtain ⟨⟨hx, hb, hml, hown, hts⟩, hK, hJ, hZ⟩ := G
  obtain ⟨hP, hD, hS⟩ := hw
  have hL := zd_in hs (by decide)
  obtain ⟨q0, he⟩ := zs_get w cA ad σ hL
  have he' := he
  rw [zs_ca hs hn (by decide)] at he'
  obtain ⟨t0, ht⟩ := zs_tg cA hL hs (by decide)
  have he' : (zs_w w cA ad σ)[q0]? = some (ad o, .inl (cA o, n, .inr (.inl (zs_l σ o)))) := he'
  refine va_last hx hb hK hP hD hS q0 t0 he' ht (zq_bs hi) hdg (fun H1 locs1 hP1 hD1 hS1 => ?_)
  have e2 : (zs_w w cA ad σ).set q0 (ad o, .inl (cA o, n, .inr (.inl (vp_updL (zs_l σ o) i.toNatClampNeg x)))) = zs_w w cA ad (zs_wl σ o i.toNatClampNeg x) := by
    refine zs_set hD he hJ hL ?_ (fun b hb2 => zs_ch rfl (zs_ln σ _ _ hb2) rfl)
    rw [zs_ca hs hn (by decide)]
    rw [zs_lu]
    rfl
  rw [e2] at hP1 hD1
  exact kk H1 locs1 ⟨hP1, hD1, hS1⟩
theorem zr_aast (G : zs_G w p s m args c cc nL own D cA ad A) (hw : zs_I w D cA ad A s σ H locs) (o : Nat) {n : Nat} (hs : (zd_sh w o).1 = 4) (hn : (zd_sh w o).2 = n) {i : Int32} {x : Nat} (hq : x ≠ 0) (hi : zq_b i n = true) (hr : ∃ cellV : Cell, H[ad x]? = some cellV ∧ cellV.vm.isStatics = false ∧ s.vm.findClass zd_tok = some cellV.cls) (hdg : decode cc pc = .ok (.aastore, 1)) (kk : ∀ (H1 : Heap) (locs1 : List Loc), zs_I w D cA ad A s (zs_wr σ o i.toNatClampNeg x) H1 locs1 → W p l e R s m args below meth c H1 locs1 cells slots Q (F0 m (pc + 1) ls (rest))) : W p l e R s m args below meth c H locs cells slots Q (F0 m pc ls (.ref (ad x) :: .int i :: .ref (ad o) :: rest)) := by
  obtain ⟨⟨hx, hb, hml, hown, hts⟩, hK, hJ, hZ⟩ := G
  obtain ⟨hP, hD, hS⟩ := hw
  have hL := zd_in hs (by decide)
  obtain ⟨q0, he⟩ := zs_get w cA ad σ hL
  have he' := he
  rw [zs_ca hs hn (by decide)] at he'
  obtain ⟨t0, ht⟩ := zs_tg cA hL hs (by decide)
  have he' : (zs_w w cA ad σ)[q0]? = some (ad o, .inl (cA o, n, .inr (.inr (.inr (.inr (fun k => zs_o ad (zs_r σ o k))))))) := he'
  refine vb_astq (C := zd_tok) hx hb hK hP hD hS q0 t0 he' ht hr vb_asgS (zq_bs hi) hdg (fun H1 locs1 hP1 hD1 hS1 => ?_)
  have e2 : (zs_w w cA ad σ).set q0 (ad o, .inl (cA o, n, .inr (.inr (.inr (.inr (va_up (fun k => zs_o ad (zs_r σ o k)) i.toNatClampNeg (some (ad x)))))))) = zs_w w cA ad (zs_wr σ o i.toNatClampNeg x) := by
    refine zs_set hD he hJ hL ?_ (fun b hb2 => zs_ch rfl rfl (zs_rn σ _ _ hb2))
    rw [zs_ca hs hn (by decide)]
    rw [zs_ru]
    refine congrArg (fun z => Sum.inl (cA o, n, Sum.inr (Sum.inr (Sum.inr (Sum.inr z))))) ?_
    funext j
    by_cases hj : j = i.toNatClampNeg
    · subst hj
      simp [va_up, zs_o_ne hq]
    · simp [va_up, hj]
  rw [e2] at hP1 hD1
  exact kk H1 locs1 ⟨hP1, hD1, hS1⟩
theorem zr_alen (G : zs_G w p s m args c cc nL own D cA ad A) (hw : zs_I w D cA ad A s σ H locs) (o : Nat) {n t : Nat} (hs : (zd_sh w o).1 = t) (ht9 : t < 10) (hn : (zd_sh w o).2 = n) (hdg : decode cc pc = .ok (.arraylength, 1)) (kk : W p l e R s m args below meth c H locs cells slots Q (F0 m (pc + 1) ls (.int (nI n) :: rest))) : W p l e R s m args below meth c H locs cells slots Q (F0 m pc ls (.ref (ad o) :: rest)) := by
  obtain ⟨⟨hx, hb, hml, hown, hts⟩, hK, hJ, hZ⟩ := G
  have hL := zd_in hs (Nat.lt_of_lt_of_le ht9 (by decide))
  obtain ⟨q0, he⟩ := zs_get w cA ad σ hL
  rw [zs_ca hs hn ht9] at he
  obtain ⟨t0, ht⟩ := zs_tg cA hL hs ht9
  exact va_alen hx hb hK hw.1 q0 t0 he ht (v := nI n) rfl hdg kk
theorem zr_aeq (G : zs_G w p s m args c cc nL own D cA ad A) {x y : Nat} (hx1 : x < 1200) (hy1 : y < 1200) {off : Int} {tgt : Nat} (hdg : decode cc pc = .ok (.if_acmp .eq off, 3)) (ht : (pc : Int) + off = (tgt : Int)) (kt : x = y → W p l e R s m args below meth c H locs cells slots Q (F0 m tgt ls (rest))) (kf : ¬ x = y → W p l e R s m args below meth c H locs cells slots Q (F0 m (pc + 3) ls (rest))) : W p l e R s m args below meth c H locs cells slots Q (F0 m pc ls (.ref (ad y) :: .ref (ad x) :: rest)) := by
  obtain ⟨⟨hx, hb, hml, hown, hts⟩, hK, hJ, hZ⟩ := G
  exact lv_acmp_eq (rx := some (ad x)) (ry := some (ad y)) hx hb hdg ht (fun h => kt (hJ _ _ hx1 hy1 (Option.some.inj h))) (fun h => kf (fun q => h (by rw [q])))
theorem zr_ane (G : zs_G w p s m args c cc nL own D cA ad A) {x y : Nat} (hx1 : x < 1200) (hy1 : y < 1200) {off : Int} {tgt : Nat} (hdg : decode cc pc = .ok (.if_acmp .ne off, 3)) (ht : (pc : Int) + off = (tgt : Int)) (kt : ¬ x = y → W p l e R s m args below meth c H locs cells slots Q (F0 m tgt ls (rest))) (kf : x = y → W p l e R s m args below meth c H locs cells slots Q (F0 m (pc + 3) ls (rest))) : W p l e R s m args below meth c H locs cells slots Q (F0 m pc ls (.ref (ad y) :: .ref (ad x) :: rest)) := by
  obtain ⟨⟨hx, hb, hml, hown, hts⟩, hK, hJ, hZ⟩ := G
  exact lv_acmp_ne (rx := some (ad x)) (ry := some (ad y)) hx hb hdg ht (fun h => kt (fun q => h (by rw [q]))) (fun h => kf (hJ _ _ hx1 hy1 (Option.some.inj h)))
end ZRA

section ZRB
/-- the world at a method's entry and behind it -/
def zs_U (w : Nat) (D : va_G) (cA : Nat → ClassId) (ad : Nat → Nat) (A : Nat → Prop) (σ : zs_S) (U : State) : Prop :=
  va_P D zd_cl (zs_w w cA ad σ) U.heap ∧ va_K D zd_cl (zs_t w cA) U ∧ va_D A (zs_w w cA ad σ) ∧ zs_Z w ad A U U.heap
abbrev zs_Qi (w : Nat) (D : va_G) (cA : Nat → ClassId) (ad : Nat → Nat) (A : Nat → Prop) (q : Int32 × zs_S) := va_Qi (S := zs_S) (fun r u => r = q.1 ∧ u = q.2) (fun u t => zs_U w D cA ad A u t) A
abbrev zs_Ql (w : Nat) (D : va_G) (cA : Nat → ClassId) (ad : Nat → Nat) (A : Nat → Prop) (q : Int64 × zs_S) := va_Ql (S := zs_S) (fun r u => r = q.1 ∧ u = q.2) (fun u t => zs_U w D cA ad A u t) A
abbrev zs_Qv (w : Nat) (D : va_G) (cA : Nat → ClassId) (ad : Nat → Nat) (A : Nat → Prop) (q : zs_S) := va_Qv (S := zs_S) (fun u => u = q) (fun u t => zs_U w D cA ad A u t) A
abbrev zs_Qr (w : Nat) (D : va_G) (cA : Nat → ClassId) (ad : Nat → Nat) (A : Nat → Prop) (q : Nat × zs_S) := va_Qr (S := zs_S) (fun u => u = q.2) (fun u a t => a = ad q.1 ∧ zs_U w D cA ad A u t) A
variable {p : Program} {l : Launch} {e : Env} {R : Room} {s : State} {m : MethodId} {args : Array Value} {below : List Frame} {meth : Method} {c : Code} {H : Heap} {locs : List Loc} {cells slots : Nat} {Q : State → Prop}
variable {cc : ByteArray} {w nL pc : Nat} {ls : Array Slot} {rest : List Value} {D : va_G} {cA : Nat → ClassId} {ad : Nat → Nat} {A : Nat → Prop} {σ : zs_S} {own : String}
theorem zs_blind {av : List Value} : FrameBlind (va_Pc av (zs_U w D cA ad A σ)) := fun a U g mk q => by
  obtain ⟨q0, qP, qK, qD, qZ⟩ := q
  exact ⟨q0, qP, va_K.moved (u := U) (U := U.calling g mk a) (Vm.Alike.refl U.vm) qK, qD, zs_Zsame (u := U) (U := U.calling g mk a) rfl qZ⟩
theorem zs_pre (G : zs_G w p s m args c cc nL own D cA ad A) (hw : zs_I w D cA ad A s σ H locs) (U : State) (hU : U.heap = H) (hW : s.WarmedH U.vm) : zs_U w D cA ad A σ U :=
  ⟨by rw [hU]; exact hw.1, va_K.moved hW.alike G.2.1, hw.2.1, by rw [hU]; exact zs_Zwarm hW (zs_Zkept hw.2.2.2.1 G.2.2.2)⟩
theorem zs_recv (G : zs_G w p s m args c cc nL own D cA ad A) (hw : zs_I w D cA ad A s σ H locs) {o ci N : Nat} {C : String} {T : u_T} (hs : (zd_sh w o).1 = 10 + ci) (hc : zd_cl[ci]? = some (C, T, N)) : ∃ cell : Cell, H[ad o]? = some cell ∧ cell.vm.isStatics = false ∧ s.vm.findClass C = some cell.cls := by
  obtain ⟨q0, he⟩ := zs_get w cA ad σ (zd_in hs (zd_lt hc))
  rw [zs_co hs] at he
  exact va_recv G.2.1 hw.1 hc he
section ZRC
variable {y : MethodName} {bytes : ByteArray} {maxL n index ci N o : Nat} {ret : Option FieldType} {ws : List Cond} {rm : Room} {Qc : Array Value → State → Outcome → State → Prop} {C host : String} {T : u_T}
theorem zr_runV (G : zs_G w p s m args c cc nL own D cA ad A) (hw : zs_I w D cA ad A s σ H locs) (As : List Value) (hM : Met l y ws rm (va_Pc (.ref (ad o) :: As) (zs_U w D cA ad A σ)) Qc 0 0 A) (cw : CallW R s args own C index y bytes maxL ret ws rm 0 0 n) (hs : (zd_sh w o).1 = 10 + ci) (hc : zd_cl[ci]? = some (C, T, N)) (hn : As.length = n) (hsz : ls.size = nL) (hroom : (rest.map fun v => v.category).sum ≤ 8) (hdg : decode cc pc = .ok (.invokevirtual index, 3)) (hcs : cells ≤ R.cells ∧ slots ≤ R.slots) :
    va_Run p l e R s m args below meth c H locs cells slots 0 0 (F0 m pc ls (As.reverse ++ .ref (ad o) :: rest)) rest (Qc (Value.ref (ad o) :: As).toArray) A :=
  va_runV G.1 hM cw ⟨zs_blind, zs_recv G hw hs hc, fun U hU hW => ⟨rfl, zs_pre G hw U hU hW⟩⟩ rfl hn hsz rfl (lv_room hroom) hdg hcs
theorem zr_runVN (G : zs_G w p s m args c cc nL own D cA ad A) (hw : zs_I w D cA ad A s σ H locs) (As : List Value) (hM : Met l y ws rm (va_Pc (.ref (ad o) :: As) (zs_U w D cA ad A σ)) Qc 0 0 A) (cw : va_CN R s args own index y host bytes maxL ret ws rm 0 0 n ∧ (Cond.instanceMethod y).before args s = true ∧ (Cond.selects C y y).before args s = true) (hs : (zd_sh w o).1 = 10 + ci) (hc : zd_cl[ci]? = some (C, T, N)) (hn : As.length = n) (hsz : ls.size = nL) (hroom : (rest.map fun v => v.category).sum ≤ 8) (hdg : decode cc pc = .ok (.invokevirtual index, 3)) (hcs : cells ≤ R.cells ∧ slots ≤ R.slots) :
    va_Run p l e R s m args below meth c H locs cells slots 0 0 (F0 m pc ls (As.reverse ++ .ref (ad o) :: rest)) rest (Qc (Value.ref (ad o) :: As).toArray) A :=
  va_runVN G.1 hM cw ⟨zs_blind, zs_recv G hw hs hc, fun U hU hW => ⟨rfl, zs_pre G hw U hU hW⟩⟩ rfl hn hsz rfl (lv_room hroom) hdg hcs
theorem zr_runS (G : zs_G w p s m args c cc nL own D cA ad A) (hw : zs_I w D cA ad A s σ H locs) (As : List Value) (hM : Met l y ws rm (va_Pc As (zs_U w D cA ad A σ)) Qc 0 0 A) (cw : CallB R s args own index y bytes maxL ret ws rm 0 0 n ∧ (Cond.static y).before args s = true) (hn : As.length = n) (hsz : ls.size = nL) (hroom : (rest.map fun v => v.category).sum ≤ 8) (hdg : decode cc pc = .ok (.invokestatic index, 3)) (hcs : cells ≤ R.cells ∧ slots ≤ R.slots) :
    va_Run p l e R s m args below meth c H locs cells slots 0 0 (F0 m pc ls (As.reverse ++ rest)) rest (Qc As.toArray) A :=
  va_runS G.1 hM cw ⟨zs_blind, fun U hU hW => ⟨rfl, zs_pre G hw U hU hW⟩⟩ rfl hn hsz rfl (lv_room hroom) hdg hcs
theorem zr_runSN (G : zs_G w p s m args c cc nL own D cA ad A) (hw : zs_I w D cA ad A s σ H locs) (As : List Value) (hM : Met l y ws rm (va_Pc As (zs_U w D cA ad A σ)) Qc 0 0 A) (cw : va_CN R s args own index y host bytes maxL ret ws rm 0 0 n ∧ (Cond.static y).before args s = true ∧ True) (hn : As.length = n) (hsz : ls.size = nL) (hroom : (rest.map fun v => v.category).sum ≤ 8) (hdg : decode cc pc = .ok (.invokestatic index, 3)) (hcs : cells ≤ R.cells ∧ slots ≤ R.slots) :
    va_Run p l e R s m args below meth c H locs cells slots 0 0 (F0 m pc ls (As.reverse ++ rest)) rest (Qc As.toArray) A :=
  va_runSN G.1 hM cw ⟨zs_blind, fun U hU hW => ⟨rfl, zs_pre G hw U hU hW⟩⟩ rfl hn hsz rfl (lv_room hroom) hdg hcs
end ZRC
theorem zr_ci {r : Int32} {σ' : zs_S} {st0 : List Value} {a : Array Value} (hw : zs_I w D cA ad A s σ H locs) (hr : va_Run p l e R s m args below meth c H locs cells slots 0 0 (F0 m pc ls st0) rest (zs_Qi w D cA ad A (r, σ') a) A) (kk : ∀ (H1 : Heap) (locs1 : List Loc), zs_I w D cA ad A s σ' H1 locs1 → W p l e R s m args below meth c H1 locs1 cells slots Q (F0 m (pc + 3) ls (.int r :: rest))) : W p l e R s m args below meth c H locs cells slots Q (F0 m pc ls st0) :=
  va_calli hr hw.2.2 (fun q _ h => h) (fun q h => h) (fun r' u t H1 locs1 ht hvm hp hB hz hk hS => by
    have h1 : r' = r := hp.1
    have h2 : u = σ' := hp.2
    subst h1
    subst h2
    exact kk H1 locs1 ⟨by rw [← ht]; exact hB.1, hB.2.2.1, hS⟩)
theorem zr_cv {σ' : zs_S} {st0 : List Value} {a : Array Value} (hw : zs_I w D cA ad A s σ H locs) (hr : va_Run p l e R s m args below meth c H locs cells slots 0 0 (F0 m pc ls st0) rest (zs_Qv w D cA ad A σ' a) A) (kk : ∀ (H1 : Heap) (locs1 : List Loc), zs_I w D cA ad A s σ' H1 locs1 → W p l e R s m args below meth c H1 locs1 cells slots Q (F0 m (pc + 3) ls rest)) : W p l e R s m args below meth c H locs cells slots Q (F0 m pc ls st0) :=
  va_callv hr hw.2.2 (fun q _ h => h) (fun q h => h) (fun u t H1 locs1 ht hvm hp hB hz hk hS => by
    have h2 : u = σ' := hp
    subst h2
    exact kk H1 locs1 ⟨by rw [← ht]; exact hB.1, hB.2.2.1, hS⟩)
theorem zr_cr {r : Nat} {σ' : zs_S} {st0 : List Value} {a : Array Value} (hw : zs_I w D cA ad A s σ H locs) (hr : va_Run p l e R s m args below meth c H locs cells slots 0 0 (F0 m pc ls st0) rest (zs_Qr w D cA ad A (r, σ') a) A) (kk : ∀ (H1 : Heap) (locs1 : List Loc), zs_I w D cA ad A s σ' H1 locs1 → W p l e R s m args below meth c H1 locs1 cells slots Q (F0 m (pc + 3) ls (.ref (ad r) :: rest))) : W p l e R s m args below meth c H locs cells slots Q (F0 m pc ls st0) :=
  va_callr hr hw.2.2 (fun q _ h => h) (fun q h => h) (fun u ra t H1 locs1 ht hvm hp hB hz hk hS => by
    have h2 : u = σ' := hp
    have h1 : ra = ad r := hB.1
    subst h2
    subst h1
    exact kk H1 locs1 ⟨by rw [← ht]; exact hB.2.1, hB.2.2.2.1, hS⟩)
theorem zr_end (G : zs_G w p s m args c cc nL own D cA ad A) (hw : zs_I w D cA ad A s σ H locs) {t : State} (ht : t.heap = H) (hW : s.WarmedH t.vm) : zs_U w D cA ad A σ t := zs_pre G hw t ht hW
theorem zr_iret (G : zs_G w p s m args c cc nL own D cA ad A) (hw : zs_I w D cA ad A s σ H locs) (hr : meth.sig.returnType = some .int) (hlocks : meth.locks = false) {x : Int32} {q : Int32 × zs_S} (hf : some (x, σ) = some q) (hQ : Q = MQ below (zs_Qi w D cA ad A q) args s cells slots A) (hdg : decode cc pc = .ok (.ireturn, 1)) : W p l e R s m args below meth c H locs cells slots Q (F0 m pc ls [.int x]) := by
  cases hf
  rw [hQ]
  exact W.iret (v := x) G.1.1 G.1.2.1 hr (fun t ht hW => ⟨⟨x, σ, rfl, ⟨rfl, rfl⟩, zr_end G hw ht hW⟩, hw.2.2.F ht⟩) hw.2.2.2.2 hdg hlocks
theorem zr_zret (G : zs_G w p s m args c cc nL own D cA ad A) (hw : zs_I w D cA ad A s σ H locs) (hr : meth.sig.returnType = some .boolean) (hlocks : meth.locks = false) {x : Int32} {q : Int32 × zs_S} (hx : zq_z x = true) (hf : some (x, σ) = some q) (hQ : Q = MQ below (zs_Qi w D cA ad A q) args s cells slots A) (hdg : decode cc pc = .ok (.ireturn, 1)) : W p l e R s m args below meth c H locs cells slots Q (F0 m pc ls [.int x]) := by
  cases hf
  rw [hQ]
  exact W.zret (v := x) G.1.1 G.1.2.1 hr (zq_zs hx) (fun t ht hW => ⟨⟨x, σ, rfl, ⟨rfl, rfl⟩, zr_end G hw ht hW⟩, hw.2.2.F ht⟩) hw.2.2.2.2 hdg hlocks
theorem zr_vret (G : zs_G w p s m args c cc nL own D cA ad A) (hw : zs_I w D cA ad A s σ H locs) (hr : meth.sig.returnType = none) (hlocks : meth.locks = false) {q : zs_S} (hf : some σ = some q) (hQ : Q = MQ below (zs_Qv w D cA ad A q) args s cells slots A) (hdg : decode cc pc = .ok (.return_, 1)) : W p l e R s m args below meth c H locs cells slots Q (F0 m pc ls []) := by
  cases hf
  rw [hQ]
  exact W.vret G.1.1 G.1.2.1 hr (fun t ht hW => ⟨⟨σ, rfl, rfl, zr_end G hw ht hW⟩, hw.2.2.F ht⟩) hw.2.2.2.2 hdg hlocks
theorem zr_aret (G : zs_G w p s m args c cc nL own D cA ad A) (hw : zs_I w D cA ad A s σ H locs) {rt : FieldType} (hr : meth.sig.returnType = some rt) (hrt : (∃ n, rt = .object n) ∨ ∃ t, rt = .array t) (hlocks : meth.locks = false) {x : Nat} {q : Nat × zs_S} (hf : some (x, σ) = some q) (hQ : Q = MQ below (zs_Qr w D cA ad A q) args s cells slots A) (hdg : decode cc pc = .ok (.areturn, 1)) : W p l e R s m args below meth c H locs cells slots Q (F0 m pc ls [.ref (ad x)]) := by
  cases hf
  rw [hQ]
  exact W.aret (v := .ref (ad x)) G.1.1 G.1.2.1 hr hrt (Or.inr ⟨_, rfl⟩) (fun t ht hW => ⟨⟨σ, ad x, rfl, rfl, rfl, zr_end G hw ht hW⟩, hw.2.2.F ht⟩) hw.2.2.2.2 hdg hlocks
end ZRB
