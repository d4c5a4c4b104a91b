section ZRE
def zq_s (q : Nat) : Bool := decide (1300 ≤ q) && decide (q < 1332)
def zq_sv (q : Nat) : Bool := decide (1400 ≤ q) && decide (q < 1432)
theorem zq_ss2 {q : Nat} (h : zq_s q = true) : ∃ i, i < 32 ∧ q = 1300 + i := by
  unfold zq_s at h
  have h1 := of_decide_eq_true (Bool.and_eq_true_iff.mp h).1
  have h2 := of_decide_eq_true (Bool.and_eq_true_iff.mp h).2
  exact ⟨q - 1300, by omega, by omega⟩
theorem zq_svs {q : Nat} (h : zq_sv q = true) : ∃ i, i < 32 ∧ q = 1400 + i := by
  unfold zq_sv at h
  have h1 := of_decide_eq_true (Bool.and_eq_true_iff.mp h).1
  have h2 := of_decide_eq_true (Bool.and_eq_true_iff.mp h).2
  exact ⟨q - 1400, by omega, by omega⟩
def zd_sln (q : Nat) : Nat := zd_sl.getD (q - 1400) 0
def zd_sby (q j : Nat) : Int32 := (zd_sb.getD (q - 1400) []).getD j 0
def zq_nb (x : Int32) : Bool := decide (x.toInt8.toInt32 = x)
def zq_nc (x : Int32) : Bool := decide ((x.toUInt32 % 65536).toInt32 = x)
theorem zq_nbs {x : Int32} (h : zq_nb x = true) : narrow .byte (.int x) = .int x := by
  have h1 := of_decide_eq_true h
  have h2 := pk_nb x
  rw [h1] at h2
  exact h2
theorem zq_ncs {x : Int32} (h : zq_nc x = true) : narrow .char (.int x) = .int x := by
  have h1 := of_decide_eq_true h
  have h2 := pk_nc x
  rw [h1] at h2
  exact h2
variable {p : Program} {l : Launch} {e : Env} {R : Room} {s : State} {m : MethodId} {args : Array Value} {below : List Frame} {meth : Method} {c : Code} {H : Heap} {locs : List Loc} {cells slots : Nat} {Q : State → Prop}
variable {cc : ByteArray} {w nL pc : Nat} {ls : Array Slot} {rest : List Value} {D : va_G} {cA : Nat → ClassId} {ad : Nat → Nat} {A : Nat → Prop} {σ : zs_S} {own : String}
theorem zr_nret (G : zs_G w p s m args c cc nL own D cA ad A) (hw : zs_I w D cA ad A s σ H locs) {ty : FieldType} (hr : meth.sig.returnType = some ty) (hlocks : meth.locks = false) {x : Int32} {q : Int32 × zs_S} (hx : narrow ty (.int x) = .int x) (hf : some (x, σ) = some q) (hQ : Q = MQ below (zs_Qi w D cA ad A q) args s cells slots A) (hdg : decode cc pc = .ok (.ireturn, 1)) : W p l e R s m args below meth c H locs cells slots Q (F0 m pc ls [.int x]) := by
  cases hf
  rw [hQ]
  exact W.zret (v := x) G.1.1 G.1.2.1 hr hx (fun t ht hW => ⟨⟨x, σ, rfl, ⟨rfl, rfl⟩, zr_end G hw ht hW⟩, hw.2.2.F ht⟩) hw.2.2.2.2 hdg hlocks
theorem zr_str (G : zs_G 1 p s m args c cc nL own D cA ad A) (hw : zs_I 1 D cA ad A s σ H locs) {q : Nat} (h : zq_s q = true) : ∃ cell : Cell, H[ad q]? = some cell ∧ cell.vm.isStatics = false ∧ s.vm.findClass "java/lang/String" = some cell.cls := by
  obtain ⟨i, hi, rfl⟩ := zq_ss2 h
  exact vk_recv (G.2.2.2.2 rfl).1 (i := i) hi hw.2.2
theorem zr_sval (G : zs_G 1 p s m args c cc nL own D cA ad A) (hw : zs_I 1 D cA ad A s σ H locs) {o index : Nat} (h : zq_s o = true) (hlink : Cond.fieldLink own index "java/lang/String" "value" "[B" ∈ zd_ww) (hdg : decode cc pc = .ok (.getfield index, 3)) (kk : W p l e R s m args below meth c H locs cells slots Q (F0 m (pc + 3) ls (.ref (ad (o + 100)) :: rest))) : W p l e R s m args below meth c H locs cells slots Q (F0 m pc ls (.ref (ad o) :: rest)) := by
  obtain ⟨⟨hx, hb, hml, hown, hts⟩, hK, hJ, hZ⟩ := G
  obtain ⟨i, hi, rfl⟩ := zq_ss2 h
  rw [show 1300 + i + 100 = 1400 + i by omega] at kk
  exact vk_getf hx hb ((hZ.2 rfl).1.1 i hi).2.2.1 hw.2.2 hown (hts _ hlink) (fun _ h => h) hdg kk
theorem zr_scod (G : zs_G 1 p s m args c cc nL own D cA ad A) (hw : zs_I 1 D cA ad A s σ H locs) {o index : Nat} (h : zq_s o = true) (hlink : Cond.fieldLink own index "java/lang/String" "coder" "B" ∈ zd_ww) (hdg : decode cc pc = .ok (.getfield index, 3)) (kk : W p l e R s m args below meth c H locs cells slots Q (F0 m (pc + 3) ls (.int 0 :: rest))) : W p l e R s m args below meth c H locs cells slots Q (F0 m pc ls (.ref (ad o) :: rest)) := by
  obtain ⟨⟨hx, hb, hml, hown, hts⟩, hK, hJ, hZ⟩ := G
  obtain ⟨i, hi, rfl⟩ := zq_ss2 h
  exact vk_getf hx hb ((hZ.2 rfl).1.1 i hi).2.1 hw.2.2 hown (hts _ hlink) (fun _ h => h) hdg kk
theorem zr_slen (G : zs_G 1 p s m args c cc nL own D cA ad A) (hw : zs_I 1 D cA ad A s σ H locs) {o : Nat} (h : zq_sv o = true) (hdg : decode cc pc = .ok (.arraylength, 1)) (kk : W p l e R s m args below meth c H locs cells slots Q (F0 m (pc + 1) ls (.int (nI (zd_sln o)) :: rest))) : W p l e R s m args below meth c H locs cells slots Q (F0 m pc ls (.ref (ad o) :: rest)) := by
  obtain ⟨⟨hx, hb, hml, hown, hts⟩, hK, hJ, hZ⟩ := G
  obtain ⟨i, hi, rfl⟩ := zq_svs h
  have e1 : zd_sln (1400 + i) = zd_sl.getD i 0 := by
    unfold zd_sln
    rw [Nat.add_sub_cancel_left]
  rw [e1] at kk
  exact va_tlen hx hb ((hZ.2 rfl).1.1 i hi).2.2.2 hw.2.2 (v := nI (zd_sl.getD i 0)) rfl hdg kk
theorem zr_sld (G : zs_G 1 p s m args c cc nL own D cA ad A) (hw : zs_I 1 D cA ad A s σ H locs) {o : Nat} (h : zq_sv o = true) {i : Int32} (hi2 : zq_b i (zd_sln o) = true) (hdg : decode cc pc = .ok (.baload, 1)) (kk : W p l e R s m args below meth c H locs cells slots Q (F0 m (pc + 1) ls (.int (zd_sby o i.toNatClampNeg) :: rest))) : W p l e R s m args below meth c H locs cells slots Q (F0 m pc ls (.int i :: .ref (ad o) :: rest)) := by
  obtain ⟨⟨hx, hb, hml, hown, hts⟩, hK, hJ, hZ⟩ := G
  obtain ⟨k, hk, rfl⟩ := zq_svs h
  have e1 : zd_sln (1400 + k) = zd_sl.getD k 0 := by
    unfold zd_sln
    rw [Nat.add_sub_cancel_left]
  have e2 : ∀ j, zd_sby (1400 + k) j = (zd_sb.getD k []).getD j 0 := by
    intro j
    unfold zd_sby
    rw [Nat.add_sub_cancel_left]
  rw [e2] at kk
  rw [e1] at hi2
  exact va_tb hx hb ((hZ.2 rfl).1.1 k hk).2.2.2 hw.2.2 (zq_bs hi2) rfl hdg kk
theorem zr_ldcw (hexec : p.tables.exec = Jvm.exec) (hb : c.code = cc) {tx : String} {index q : Nat} (hown : s.vm.findClass own = some m.cls) (hZ : vk_R own index tx q s) (hdg : decode cc pc = .ok (.ldc_w index, 3)) (k : W p l e R s m args below meth c H locs cells slots Q (F0 m (pc + 3) ls (.ref q :: rest))) : W p l e R s m args below meth c H locs cells slots Q (F0 m pc ls rest) := by
  intro T hT X
  obtain ⟨t, a1, b1⟩ := k T hT X
  exact ⟨t, X.ldcStringW hexec hown (text := tx) (a := q) hZ.1 hZ.2 (g := F0 m pc ls rest) rfl (by rw [hb]; exact hdg) t a1, b1⟩
theorem zr_runR {y : MethodName} {bytes : ByteArray} {maxL n index o : Nat} {ret : Option FieldType} {ws : List Cond} {rm : Room} {Qc : Array Value → State → Outcome → State → Prop} {C : String} (G : zs_G w p s m args c cc nL own D cA ad A) (hw : zs_I w D cA ad A s σ H locs) (As : List Value) (hM : Met l y ws rm (va_Pc (.ref (ad o) :: As) (zs_U w D cA ad A σ)) Qc 0 0 A) (cw : CallW R s args own C index y bytes maxL ret ws rm 0 0 n) (hrec : ∃ cell : Cell, H[ad o]? = some cell ∧ cell.vm.isStatics = false ∧ s.vm.findClass C = some cell.cls) (hn : As.length = n) (hsz : ls.size = nL) (hroom : (rest.map fun v => v.category).sum ≤ 8) (hdg : decode cc pc = .ok (.invokevirtual index, 3)) (hcs : cells ≤ R.cells ∧ slots ≤ R.slots) :
    va_Run p l e R s m args below meth c H locs cells slots 0 0 (F0 m pc ls (As.reverse ++ .ref (ad o) :: rest)) rest (Qc (Value.ref (ad o) :: As).toArray) A :=
  va_runV G.1 hM cw ⟨zs_blind, hrec, fun U hU hW => ⟨rfl, zs_pre G hw U hU hW⟩⟩ rfl hn hsz rfl (lv_room hroom) hdg hcs
end ZRE
