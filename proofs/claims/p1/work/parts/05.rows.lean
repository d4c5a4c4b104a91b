section ZRD
def zq_t (q : Nat) : Bool := decide (1000 ≤ q) && decide (q < 1037)
def zq_kd (q : Nat) : Bool := decide (1100 ≤ q) && decide (q < 1110)
def zq_en (q : Nat) : Bool := zq_t q || zq_kd q
def zd_ord (q : Nat) : Int32 := if q < 1100 then nI (q - 1000) else nI (q - 1100)
/-- of a token: 1 its length, 2 its level -/
def zd_tv (j q : Nat) : Int32 := (zd_tf.getD j ("", "", "", [])).2.2.2.getD (q - 1000) 0
def zd_tw (q : Nat) : Int64 := zd_tk.getD (q - 1000) 0
theorem zq_ts {q : Nat} (h : zq_t q = true) : ∃ i, i < 37 ∧ q = 1000 + i := by
  unfold zq_t at h
  have h1 := of_decide_eq_true (Bool.and_eq_true_iff.mp h).1
  have h2 := of_decide_eq_true (Bool.and_eq_true_iff.mp h).2
  exact ⟨q - 1000, by omega, by omega⟩
theorem zq_kds {q : Nat} (h : zq_kd q = true) : ∃ i, i < 10 ∧ q = 1100 + i := by
  unfold zq_kd at h
  have h1 := of_decide_eq_true (Bool.and_eq_true_iff.mp h).1
  have h2 := of_decide_eq_true (Bool.and_eq_true_iff.mp h).2
  exact ⟨q - 1100, by omega, by omega⟩
theorem zq_tn {q : Nat} (h : zq_t q = true) : q ≠ 0 := by
  obtain ⟨i, hi, e⟩ := zq_ts h
  omega
theorem zd_or0 : ∀ i, i < 37 → (zd_tf.getD 0 ("", "", "", [])).2.2.2.getD i 0 = nI i := by decide
theorem zd_or1 : ∀ i, i < 10 → (zd_kf.getD 0 ("", "", "", [])).2.2.2.getD i 0 = nI i := by decide
def zq_cp (t : Nat) (σ : zs_S) (a : Nat) (sp dp n : Int32) (na nb : Nat) : Bool :=
  decide (¬ sp < 0) && (decide (¬ dp < 0) && (decide (¬ n < 0) && (decide (sp.toNatClampNeg + n.toNatClampNeg ≤ na) && (decide (dp.toNatClampNeg + n.toNatClampNeg ≤ nb) && (List.range n.toNatClampNeg).all (fun i => fits (zd_ty t) (.int (zs_i σ a (sp.toNatClampNeg + i))))))))
theorem zq_o1 {x v : Int32} {lo : Int} (hv : v.toInt = lo) (h : ¬ x = v) : x.toInt ≠ lo := fun e => h (Int32.toInt_inj.mp (e.trans hv.symm))
theorem zs_gU {own C owner : String} {index maxL : Nat} {x y : MethodName} {bytes : ByteArray} {ret : Option FieldType} (h1 : Cond.methodLink own index x ∈ zd_ww) (h2 : Cond.sameMethod x.cls owner x.name x.desc ∈ zd_ww) (h3 : Cond.selects C x y ∈ zd_ww) (h4 : Cond.instanceMethod y ∈ zd_ww) (h6 : Cond.initialized y.cls ∈ zd_ww) (h5 : Cond.code y bytes maxL ret ∈ zd_ww) : GoodIn zd_ww (va_wsU own index C owner x y (Cond.code y bytes maxL ret :: zd_ww)) := fun w h => by
  have hm : w ∈ zd_ww := by
    unfold va_wsU at h
    rcases List.mem_append.mp h with h | h
    · rcases List.mem_cons.mp h with rfl | h
      · exact h1
      rcases List.mem_cons.mp h with rfl | h
      · exact h2
      rcases List.mem_cons.mp h with rfl | h
      · exact h3
      rcases List.mem_cons.mp h with rfl | h
      · exact h4
      rcases List.mem_cons.mp h with rfl | h
      · exact h6
      exact absurd h List.not_mem_nil
    · rcases List.mem_cons.mp h with rfl | h
      · exact h5
      · exact h
  exact ⟨hm, zd_ok hm⟩
variable {p : Program} {l : Launch} {e : Env} {R : Room} {s : State} {m : MethodId} {args : Array Value} {below : List Frame} {meth : Method} {c : Code} {H : Heap} {locs : List Loc} {cells slots : Nat} {Q : State → Prop}
variable {cc : ByteArray} {w nL pc : Nat} {ls : Array Slot} {rest : List Value} {D : va_G} {cA : Nat → ClassId} {ad : Nat → Nat} {A : Nat → Prop} {σ : zs_S} {own : String}
theorem zr_tok (G : zs_G 0 p s m args c cc nL own D cA ad A) (hw : zs_I 0 D cA ad A s σ H locs) {q : Nat} (h : zq_t q = true) : ∃ cell : Cell, H[ad q]? = some cell ∧ cell.vm.isStatics = false ∧ s.vm.findClass "ScheduleCheck$Token" = some cell.cls := by
  obtain ⟨i, hi, rfl⟩ := zq_ts h
  exact va_recvE (G.2.2.2.1 rfl).1 (i := i) hi hw.2.2
theorem zr_kin (G : zs_G 0 p s m args c cc nL own D cA ad A) (hw : zs_I 0 D cA ad A s σ H locs) {q : Nat} (h : zq_kd q = true) : ∃ cell : Cell, H[ad q]? = some cell ∧ cell.vm.isStatics = false ∧ s.vm.findClass "ScheduleCheck$Kind" = some cell.cls := by
  obtain ⟨i, hi, rfl⟩ := zq_kds h
  exact va_recvE (G.2.2.2.1 rfl).2.2.1 (i := i) hi hw.2.2
theorem zr_tf (G : zs_G 0 p s m args c cc nL own D cA ad A) (hw : zs_I 0 D cA ad A s σ H locs) {o index : Nat} (h : zq_t o = true) (j : Nat) {f : String × String × String × List Int32} (hj : zd_tf[j]? = some f) (hlink : Cond.fieldLink own index f.1 f.2.1 f.2.2.1 ∈ zd_ww) (hdg : decode cc pc = .ok (.getfield index, 3)) (kk : W p l e R s m args below meth c H locs cells slots Q (F0 m (pc + 3) ls (.int (zd_tv j o) :: rest))) : W p l e R s m args below meth c H locs cells slots Q (F0 m pc ls (.ref (ad o) :: rest)) := by
  obtain ⟨⟨hx, hb, hml, hown, hts⟩, hK, hJ, hZ⟩ := G
  obtain ⟨i, hi, rfl⟩ := zq_ts h
  refine va_getE (i := i) hx hb (hZ.1 rfl).1 hi hw.2.2 hown (List.mem_of_getElem? hj) (hts _ hlink) (fun _ h => h) hdg ?_
  have e1 : zd_tv j (1000 + i) = f.2.2.2.getD i 0 := by
    have e2 : zd_tf.getD j ("", "", "", []) = f := by rw [List.getD_eq_getElem?_getD, hj]; rfl
    unfold zd_tv
    rw [e2, Nat.add_sub_cancel_left]
  rw [← e1]
  exact kk
theorem zr_tk (G : zs_G 0 p s m args c cc nL own D cA ad A) (hw : zs_I 0 D cA ad A s σ H locs) {o index : Nat} (h : zq_t o = true) (hlink : Cond.fieldLink own index "ScheduleCheck$Token" "key" "J" ∈ zd_ww) (hdg : decode cc pc = .ok (.getfield index, 3)) (kk : W p l e R s m args below meth c H locs cells slots Q (F0 m (pc + 3) ls (.long (zd_tw o) :: rest))) : W p l e R s m args below meth c H locs cells slots Q (F0 m pc ls (.ref (ad o) :: rest)) := by
  obtain ⟨⟨hx, hb, hml, hown, hts⟩, hK, hJ, hZ⟩ := G
  obtain ⟨i, hi, rfl⟩ := zq_ts h
  refine va_getX (i := i) hx hb (hZ.1 rfl).2.1 hi hw.2.2 hown (hts _ hlink) (fun _ h => h) hdg ?_
  have e1 : zd_tw (1000 + i) = zd_tk.getD i 0 := by
    unfold zd_tw
    rw [Nat.add_sub_cancel_left]
  rw [← e1]
  exact kk
theorem zr_ord (G : zs_G 0 p s m args c cc nL own D cA ad A) (hw : zs_I 0 D cA ad A s σ H locs) {o index : Nat} (h : zq_en o = true) (hlink : Cond.fieldLink own index "java/lang/Enum" "ordinal" "I" ∈ zd_ww) (hdg : decode cc pc = .ok (.getfield index, 3)) (kk : W p l e R s m args below meth c H locs cells slots Q (F0 m (pc + 3) ls (.int (zd_ord o) :: rest))) : W p l e R s m args below meth c H locs cells slots Q (F0 m pc ls (.ref (ad o) :: rest)) := by
  obtain ⟨⟨hx, hb, hml, hown, hts⟩, hK, hJ, hZ⟩ := G
  rcases (Bool.or_eq_true _ _).mp h with h | h
  · obtain ⟨i, hi, rfl⟩ := zq_ts h
    refine va_getE (i := i) (q := zd_tf.getD 0 ("", "", "", [])) hx hb (hZ.1 rfl).1 hi hw.2.2 hown (List.mem_of_getElem? (i := 0) rfl) (hts _ hlink) (fun _ h => h) hdg ?_
    have e1 : zd_ord (1000 + i) = nI i := by
      unfold zd_ord
      rw [if_pos (by omega), Nat.add_sub_cancel_left]
    rw [zd_or0 i hi, ← e1]
    exact kk
  · obtain ⟨i, hi, rfl⟩ := zq_kds h
    refine va_getE (i := i) (q := zd_kf.getD 0 ("", "", "", [])) hx hb (hZ.1 rfl).2.2.1 hi hw.2.2 hown (List.mem_of_getElem? (i := 0) rfl) (hts _ hlink) (fun _ h => h) hdg ?_
    have e1 : zd_ord (1100 + i) = nI i := by
      unfold zd_ord
      rw [if_neg (by omega), Nat.add_sub_cancel_left]
    rw [zd_or1 i hi, ← e1]
    exact kk
theorem zr_runU {x y : MethodName} {bytes : ByteArray} {maxL n index o : Nat} {ret : Option FieldType} {ws : List Cond} {rm : Room} {Qc : Array Value → State → Outcome → State → Prop} {C owner : String} (G : zs_G w p s m args c cc nL own D cA ad A) (hw : zs_I w D cA ad A s σ H locs) (As : List Value) (hM : Met l y ws rm (va_Pc (.ref (ad o) :: As) (zs_U w D cA ad A σ)) Qc 0 0 A) (cw : va_CU R s args own C owner index x y bytes maxL ret ws rm 0 0 n) (hrec : ∃ cell : Cell, H[ad o]? = some cell ∧ cell.vm.isStatics = false ∧ s.vm.findClass C = some cell.cls) (hn : As.length = n) (hsz : ls.size = nL) (hroom : (rest.map fun v => v.category).sum ≤ 8) (hdg : decode cc pc = .ok (.invokevirtual index, 3)) (hcs : cells ≤ R.cells ∧ slots ≤ R.slots) :
    va_Run p l e R s m args below meth c H locs cells slots 0 0 (F0 m pc ls (As.reverse ++ .ref (ad o) :: rest)) rest (Qc (Value.ref (ad o) :: As).toArray) A :=
  va_runU G.1 hM cw ⟨zs_blind, hrec, fun U hU hW => ⟨rfl, zs_pre G hw U hU hW⟩⟩ rfl hn hsz rfl (lv_room hroom) hdg hcs
theorem zr_copy (G : zs_G w p s m args c cc nL own D cA ad A) (hw : zs_I w D cA ad A s σ H locs) (a b : Nat) {na nb t index : Nat} (ha : (zd_sh w a).1 = t) (hb2 : (zd_sh w b).1 = t) (hna : (zd_sh w a).2 = na) (hnb : (zd_sh w b).2 = nb) (ht : t < 3) {sp dp n : Int32} (hk : zq_cp t σ a sp dp n na nb = true) (hsz : ls.size = nL) (hlink : Cond.methodLink own index arraycopyName ∈ zd_ww) (hnat : Cond.native arraycopyName ∈ zd_ww) (hstat : Cond.static arraycopyName ∈ zd_ww) (hini : Cond.initialized "java/lang/System" ∈ zd_ww) (hframes : 1 ≤ R.frames) (hlocals : (rest.map fun v => v.category).sum + (nativeFrameWords "java/lang/System" "arraycopy" 5 + 11) ≤ R.locals) (hdg : decode cc pc = .ok (.invokestatic index, 3)) (kk : ∀ (H1 : Heap) (locs1 : List Loc), zs_I w D cA ad A s (zs_cp σ a b sp.toNatClampNeg dp.toNatClampNeg n.toNatClampNeg) H1 locs1 → W p l e R s m args below meth c H1 locs1 cells slots Q (F0 m (pc + 3) ls rest)) : W p l e R s m args below meth c H locs cells slots Q (F0 m pc ls (.int n :: .int dp :: .ref (ad b) :: .int sp :: .ref (ad a) :: rest)) := by
  obtain ⟨⟨hx, hb, hml, hown, hts⟩, hK, hJ, hZ⟩ := G
  obtain ⟨hP, hD, hS⟩ := hw
  have ht10 : t < 10 := by omega
  have hLa := zd_in ha (by omega)
  have hLb := zd_in hb2 (by omega)
  obtain ⟨qa, hea⟩ := zs_get w cA ad σ hLa
  obtain ⟨qb, heb⟩ := zs_get w cA ad σ hLb
  have hea' := hea
  have heb' := heb
  have eA : ∀ (fi : Nat → Int32) (fl : Nat → Int64) (fr : Nat → Nat) (o : Nat), zs_a w ad fi fl fr t o = .inl fi := by
    intro fi fl fr o
    match t, ht with
    | 0, _ => rfl
    | 1, _ => rfl
    | 2, _ => rfl
  have eR : refKind (zd_ty t) = false := by
    match t, ht with
    | 0, _ => rfl
    | 1, _ => rfl
    | 2, _ => rfl
  rw [zs_ca ha hna ht10, eA] at hea'
  rw [zs_ca hb2 hnb ht10, eA] at heb'
  obtain ⟨ta, hta⟩ := zs_tg cA hLa ha ht10
  obtain ⟨tb, htb⟩ := zs_tg cA hLb hb2 ht10
  unfold zq_cp at hk
  obtain ⟨k1, hk⟩ := Bool.and_eq_true_iff.mp hk
  obtain ⟨k2, hk⟩ := Bool.and_eq_true_iff.mp hk
  obtain ⟨k3, hk⟩ := Bool.and_eq_true_iff.mp hk
  obtain ⟨k4, hk⟩ := Bool.and_eq_true_iff.mp hk
  obtain ⟨k5, k6⟩ := Bool.and_eq_true_iff.mp hk
  have k6 := List.all_eq_true.mp k6
  refine va_copyi hx hb (hml.trans hsz.symm) hown (hts _ hlink) (hts _ hnat) (hts _ hstat) (hts _ hini) hK hP hD hS qa qb ta tb hea' heb' hta htb eR (of_decide_eq_true k1) (of_decide_eq_true k2) (of_decide_eq_true k3) (of_decide_eq_true k4) (of_decide_eq_true k5) (fun i hi => k6 i (List.mem_range.mpr hi)) hframes hlocals hdg (fun H1 locs1 hP1 hD1 hS1 => ?_)
  have e2 : (zs_w w cA ad σ).set qb (ad b, .inl (cA b, nb, .inl (va_cpy (zs_i σ a) (zs_i σ b) sp.toNatClampNeg dp.toNatClampNeg n.toNatClampNeg))) = zs_w w cA ad (zs_cp σ a b sp.toNatClampNeg dp.toNatClampNeg n.toNatClampNeg) := by
    refine zs_set hD heb hJ hLb ?_ (fun o ho => zs_ch (zs_cn σ a _ _ _ ho) rfl rfl)
    rw [zs_ca hb2 hnb ht10, eA, zs_cu]
  rw [e2] at hP1 hD1
  exact kk H1 locs1 ⟨hP1, hD1, hS1⟩
end ZRD
