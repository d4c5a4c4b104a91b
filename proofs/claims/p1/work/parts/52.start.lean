theorem zn7_0 : Cond.classLink "ScheduleCheckLaw" 7 "ScheduleCheck" ∈ zd_ww := zd_me 23 (by decide +kernel) (by decide +kernel)
theorem zn7_1 : Cond.instantiable "ScheduleCheck" 9 ∈ zd_ww := zd_me 24 (by decide +kernel) (by decide +kernel)
theorem zn7_2 : Cond.initialized "ScheduleCheck" ∈ zd_ww := zd_me 1 (by decide +kernel) (by decide +kernel)
theorem zn7_3 : Cond.code ⟨"ScheduleCheck","<init>","()V"⟩ prog_1_method_1_code 1 none ∈ zd_ww := zd_me 27 (by decide +kernel) (by decide +kernel)
theorem zn7_4 : Cond.methodLink "ScheduleCheckLaw" 9 ⟨"ScheduleCheck","<init>","()V"⟩ ∈ zd_ww := zd_me 25 (by decide +kernel) (by decide +kernel)
theorem zn7_5 : Cond.instanceMethod ⟨"ScheduleCheck","<init>","()V"⟩ ∈ zd_ww := zd_me 26 (by decide +kernel) (by decide +kernel)
theorem zn7_6 : Cond.classLink "ScheduleCheckLaw" 10 "ScheduleCheckModel" ∈ zd_ww := zd_me 805 (by decide +kernel) (by decide +kernel)
theorem zn7_7 : Cond.instantiable "ScheduleCheckModel" 31 ∈ zd_ww := zd_me 806 (by decide +kernel) (by decide +kernel)
theorem zn7_8 : Cond.initialized "ScheduleCheckModel" ∈ zd_ww := zd_me 11 (by decide +kernel) (by decide +kernel)
theorem zn7_9 : Cond.code ⟨"ScheduleCheckModel","<init>","()V"⟩ prog_13_method_2_code 1 none ∈ zd_ww := zd_me 809 (by decide +kernel) (by decide +kernel)
theorem zn7_10 : Cond.methodLink "ScheduleCheckLaw" 12 ⟨"ScheduleCheckModel","<init>","()V"⟩ ∈ zd_ww := zd_me 807 (by decide +kernel) (by decide +kernel)
theorem zn7_11 : Cond.instanceMethod ⟨"ScheduleCheckModel","<init>","()V"⟩ ∈ zd_ww := zd_me 808 (by decide +kernel) (by decide +kernel)
section ZYA
variable {p : Program} {l : Launch} {e : Env} {R : Room} {s : State} {m : MethodId} {args : Array Value} {below : List Frame} {meth : Method} {c : Code} {H : Heap} {locs : List Loc} {cells slots : Nat} {Q : State → Prop}
variable {cc : ByteArray} {w nL pc b j : Nat} {ls : Array Slot} {rest : List Value} {D : va_G} {cA : Nat → ClassId} {ad : Nat → Nat} {A : Nat → Prop} {σ : zs_S} {own : String}
theorem zk_new2 (G : zk_G w p s m args c cc nL own D cA ad A b) (hw : zk_I w D cA ad A s b j σ H locs) {C : String} {T : u_T} {N ci index : Nat} (hin : ∀ w ∈ u_ws C T N, w ∈ zd_ww) (ty0 : Nat → FieldType) (hty : ∀ k, k < N → parseFieldDescriptor (T k).2.2.1 = some (ty0 k)) (hs : (zd_sh w (j + 1)).1 = 10 + ci) (hc : zd_cl[ci]? = some (C, T, N)) (hN : zd_N ci = N) (hj : j + 1 ≤ zd_M w) (hdef : ∀ k, k < N → defaultValue (ty0 k) = zs_f w ad (fun _ => 0) (fun _ => 0) (fun _ => 0) ci (j + 1) k) (hcl : Cond.classLink own index C ∈ zd_ww) (hinst : Cond.instantiable C N ∈ zd_ww) (hini : Cond.initialized C ∈ zd_ww) (hcells : cells + 1 ≤ R.cells) (hslots : slots + N ≤ R.slots) (hdg : decode cc pc = .ok (.new index, 3)) (kk : ∀ (H1 : Heap), (∀ q, q < H.size → H1[q]? = H[q]?) → zk_I w D cA ad A s b (j + 1) σ H1 locs → W p l e R s m args below meth c H1 locs (cells + 1) (slots + N) Q (F0 m (pc + 3) ls (.ref (ad (j + 1)) :: rest))) : W p l e R s m args below meth c H locs cells slots Q (F0 m pc ls rest) := by
  obtain ⟨⟨hx, hb, hml, hown, hts⟩, hK, hJ, hZ, had, hA, hO⟩ := G
  have hz := hw.2.2.2.1
  have hd9 := hw.2.2.2.2
  have hKn := hK.1 ci _ hc
  have ea : ad (j + 1) = H.size := by rw [had (j + 1) (by omega) hj, hz, Nat.add_sub_cancel]
  refine W.newcK hx hb hown (hts _ hcl) (hts _ hinst) (hts _ hini) rfl hdg hcells hslots hKn.2.1 rfl fun H1 kC hkC e1 z1 o1 => ?_
  have k1 := kk H1 o1 (zk_grow had hA hw hj z1 o1 (by
    rw [zs_co hs]
    refine ⟨_, hc, ?_⟩
    show t_OB (ad (j + 1)) _ _ _ H1 _
    rw [ea]
    refine (u_born ty0 hts hin hKn hkC e1 hty).to (fun k hkN => ?_)
    rw [hdef k hkN]
    have hd8 := hd9 (j + 1) (by omega)
    rw [hd8.1, hd8.2.1, hd8.2.2]
    unfold vp_V
    rw [List.getD_eq_getElem?_getD, List.getElem?_map, List.getElem?_range (by rw [hN]; exact hkN)]
    rfl))
  rw [ea] at k1
  exact k1
theorem zk_call2 {y : MethodName} {bytes : ByteArray} {maxL n index o j2 mc ms : Nat} {ws : List Cond} {rm : Room} {σ' : zs_S} (G : zk_G w p s m args c cc nL own D cA ad A b) (hw : zk_I w D cA ad A s b j σ H locs) (As : List Value) (hM : Met l y ws rm (va_Pc (.ref (ad o) :: As) (zk_U w D cA ad A b j σ)) (zk_Q w D cA ad A b j2 σ') mc ms A) (cw : CallB R s args own index y bytes maxL none ws rm mc ms n ∧ y.name = "<init>" ∧ (Cond.instanceMethod y).before args s = true) (hn : As.length = n) (hsz : ls.size = nL) (hroom : (rest.map fun v => v.category).sum ≤ 8) (hdg : decode cc pc = .ok (.invokespecial index, 3)) (hcs : cells + mc ≤ R.cells ∧ slots + ms ≤ R.slots) (kk : ∀ (H1 : Heap) (locs1 : List Loc), (∀ q, q < H.size → ¬ A q → H1[q]? = H[q]?) → zk_I w D cA ad A s b j2 σ' H1 locs1 → W p l e R s m args below meth c H1 locs1 (cells + mc) (slots + ms) Q (F0 m (pc + 3) ls rest)) : W p l e R s m args below meth c H locs cells slots Q (F0 m pc ls (As.reverse ++ .ref (ad o) :: rest)) :=
  va_callv (va_runI (As := As) (rest := rest) G.1 hM cw ⟨zk_blind, fun U hU hW => ⟨rfl, zk_pre G hw U hU hW⟩⟩ rfl hn hsz rfl (lv_room hroom) hdg hcs) hw.2.2.1 (fun q _ h => h) (fun q h => h) (fun u t H1 locs1 ht hvm hp hB hz hk hS => by
    have h2 : u = σ' := hp
    subst h2
    exact kk H1 locs1 hk ⟨by rw [← ht]; exact hB.1, hB.2.2.1, hS, by rw [← ht]; exact hB.2.2.2.2.1, hB.2.2.2.2.2.1⟩)
end ZYA
set_option maxHeartbeats 8000000 in
set_option maxRecDepth 100000 in
/-- the law out of zl_step: both objects are made, then the loop -/
theorem zl_start {p : Program} {e : Env} {s : State} {m : MethodId} {below : List Frame} {meth : Method} {c : Code} (l : Launch) {b L : Nat} {xs : Nat → Int32} {F KK : Nat} {Inv : Nat → zs_S → zs_S → Prop} (hL : L ≤ 3072) (hLK : L < 6 * KK + 6) (hKK : KK ≤ 512) (C0 : lw_At p s m meth c b L xs) (hstep : zl_step F KK Inv) (h0 : Inv 0 (zk_f_S_init_1 zt_0) (zk_f_M_init_1 zt_0)) : W p l e room_1 s m #[Value.ref b] below meth c s.heap [] 0 0 (lw_Z below #[Value.ref b] s) (entryFrame m ([Value.ref b] : List Value).toArray 4) := by
  have C1 := C0
  obtain ⟨hx, hb, hr, hml, hown, htb, hX, hbl, hlocks, hgv⟩ := C0
  have hts : ∀ w ∈ zd_ww, w.before #[Value.ref b] s = true := fun w h => htb w (List.mem_filter.mp h).1
  have ht1 : ∀ w ∈ tables_1, w.before #[Value.ref b] s = true := fun w h => htb w (List.mem_append_right _ h)
  have hg := flat_of_before _ hgv
  have a4 : va_AO "ScheduleCheck$Token" s := va_AO.of (ht1 _ zx_o4)
  have a5 : va_AO "ScheduleCheck$Statement" s := va_AO.of (ht1 _ zx_o5)
  have a6 : va_AO "ScheduleCheckModel$Names" s := va_AO.of (ht1 _ zx_o6)
  obtain ⟨D, cT, hK⟩ := zt_K hts a4 a5 a6
  obtain ⟨ad, hJ, hZ, had⟩ := zt_ad hg ht1
  obtain ⟨bd, hJ2, hZ2, hbd⟩ := zt_bd hg ht1
  have SS : CallFix p m c code 4 s #[Value.ref b] zd_ww R_law := ⟨hx, hb, hml, hown, hts⟩
  have had2 : ∀ o, 1 ≤ o → o ≤ zd_M 2 → ad o = s.heap.size + (o - 1) := fun o h1 h2 => had o h1 (Nat.le_trans h2 (by decide))
  have hbd2 : ∀ o, 1 ≤ o → o ≤ zd_M 3 → bd o = s.heap.size + 139 + (o - 1) := fun o h1 h2 => hbd o h1 (Nat.le_trans h2 (by decide))
  have G2 : zk_G 2 p s m #[Value.ref b] c code 4 R_law D (fun o => cT (zd_sh 2 o).1) ad (fun q => s.heap.size ≤ q) s.heap.size := ⟨SS, hK 2, hJ, hZ, had2, fun q h => h, fun _ => ⟨a4, a5⟩, fun h => absurd h (by decide)⟩
  have G3 : zk_G 3 p s m #[Value.ref b] c code 4 R_law D (fun o => cT (zd_sh 3 o).1) bd (fun q => s.heap.size + 139 ≤ q) (s.heap.size + 139) := ⟨SS, hK 3, hJ2, zs_Znar (fun q h => Nat.le_trans (Nat.le_add_right _ _) h) hZ2, hbd2, fun q h => h, fun h => absurd h (by decide), fun _ => a6⟩
  have hl := lv_entry [Value.ref b] (n := 4) (Nat.le_of_ble_eq_true rfl)
  rw [lg_entry_eq]
  generalize (lg_sl [Value.ref b] ++ List.replicate (4 - (lg_sl [Value.ref b]).length) Slot.unset).toArray = ls at hl ⊢
  have hl : lv_has ls 4 [(0, .ref b)] := hl
  have hw : zk_I 2 D (fun o => cT (zd_sh 2 o).1) ad (fun q => s.heap.size ≤ q) s s.heap.size 0 zt_0 s.heap [] := ⟨fun k x h => (by cases h), ⟨fun i j x y h => (by cases h), fun k x h => (by cases h)⟩, va_S.rf, rfl, fun o _ => ⟨rfl, rfl, rfl⟩⟩
  refine zk_new (ci := 0) G2 hw zi_0 t_zd0 t_zd0_ok rfl rfl rfl (by decide) (zh_0 ad _) zn7_0 zn7_1 zn7_2 (by decide) (by decide) d_law_0 (fun H hw => ?_)
  refine W.widen (k := 1) (n := 9) (by decide) (by decide) ?_
  refine lv_dup hx hb d_law_3 rfl ?_
  refine zk_call (rest := [.ref (ad 1)]) (o := 1) G2 hw [] (zk_S_init_1 hJ had2 (fun q h => h)) (cwI 0 hts (zs_gC zn7_3) rfl rfl rfl (hts _ zn7_2) (hts _ zn7_4) (hts _ zn7_5) rfl (by decide +kernel) ⟨by decide, by decide⟩) rfl hl.1 (Nat.le_of_ble_eq_true rfl) d_law_4 ⟨by decide, by decide⟩ (fun H locs hw => ?_)
  refine W.widen (k := 139) (n := 50745) (by decide) (by decide) ?_
  refine lv_astore_n hx hb d_law_7 rfl hl (by decide) rfl (fun ls hl => ?_)
  have hl : lv_has ls 4 [(1, .ref (ad 1)), (0, .ref b)] := hl
  refine va_forget (fun q hq => hw.2.2.1.2.2 q hq) ?_
  have hP0 := hw.1
  have hz0 : H.size = s.heap.size + 139 := hw.2.2.2.1
  have hkp : ∀ q, q < s.heap.size → H[q]? = s.heap[q]? := fun q h => hw.2.2.1.2.1 q h (Nat.not_le.mpr h)
  have hw3 : zk_I 3 D (fun o => cT (zd_sh 3 o).1) bd (fun q => s.heap.size + 139 ≤ q) s (s.heap.size + 139) 0 zt_0 H [] := ⟨fun k x h => (by cases h), ⟨fun i j x y h => (by cases h), fun k x h => (by cases h)⟩, ⟨by omega, fun q h _ => hkp q h, fun _ h => (by cases h)⟩, hz0, fun o _ => ⟨rfl, rfl, rfl⟩⟩
  have hlt0 : ∀ (k : Nat) (x : Nat × va_E), (zk_w 2 139 (fun o => cT (zd_sh 2 o).1) ad (zk_f_S_init_1 zt_0))[k]? = some x → x.1 < s.heap.size + 139 := fun k x hx => by rw [← hz0]; exact (hP0 k x hx).lt
  refine zk_new2 (ci := 8) G3 hw3 zi_8 t_zd8 t_zd8_ok rfl rfl rfl (by decide) (zh_8 bd _) zn7_6 zn7_7 zn7_8 (by decide) (by decide) d_law_8 (fun H1 o1 hw3 => ?_)
  have hP1 := hP0.kept (H1 := H1) (fun k x hx => o1 x.1 (by rw [hz0]; exact hlt0 k x hx))
  have hz1 : H1.size = s.heap.size + 139 + 1 := hw3.2.2.2.1
  refine W.widen (k := 140) (n := 50776) (by decide) (by decide) ?_
  refine lv_dup hx hb d_law_11 rfl ?_
  refine zk_call2 (rest := [.ref (bd 1)]) (o := 1) G3 hw3 [] (zk_M_init_1 hJ2 hbd2 (fun q h => h)) (cwI 0 hts (zs_gC zn7_9) rfl rfl rfl (hts _ zn7_8) (hts _ zn7_10) (hts _ zn7_11) rfl (by decide +kernel) ⟨by decide, by decide⟩) rfl hl.1 (Nat.le_of_ble_eq_true rfl) d_law_12 ⟨by decide, by decide⟩ (fun H2 locs2 o2 hw3 => ?_)
  have hP2 := hP1.kept (H1 := H2) (fun k x hx => o2 x.1 (by have := hlt0 k x hx; omega) (by have := hlt0 k x hx; exact Nat.not_le.mpr this))
  refine W.widen (k := 300) (n := 200000) (by decide) (by decide) ?_
  refine lv_astore_n hx hb d_law_15 rfl hl (by decide) rfl (fun ls hl => ?_)
  refine lv_iconst (v := 0) hx hb d_law_16 (by decide) ?_
  refine lv_istore_n hx hb d_law_17 rfl hl (by decide) rfl (fun ls hl => ?_)
  have hl : lv_has ls 4 [(3, .int 0), (2, .ref (bd 1)), (1, .ref (ad 1)), (0, .ref b)] := hl
  have q1 := zt_c0 zt_k0 hP2
  have q2 := zt_c1 zt_k1 hw3.1
  have sm : ∀ {v o : Nat}, o ∈ zd_L v → 1 ≤ o ∧ o ≤ zd_M v := fun h => by have := List.mem_range'_1.mp h; omega
  have sA : ∀ o, o ∈ zd_L 0 → ad o = s.heap.size + (o - 1) := fun o ho => had2 o (sm ho).1 (sm ho).2
  have sB : ∀ o, o ∈ zd_L 1 → bd o = s.heap.size + 139 + (o - 1) := fun o ho => hbd2 o (sm ho).1 (sm ho).2
  have HH1 : zl_H 0 D (fun o => cT (zd_sh 2 o).1) ad s := ⟨by rw [zt_t0]; exact hK 2, hJ, hZ, fun o ho => by rw [sA o ho]; omega⟩
  have HH2 : zl_H 1 D (fun o => cT (zd_sh 3 o).1) bd s := ⟨by rw [zt_t1]; exact hK 3, hJ2, hZ2, fun o ho => by rw [sB o ho]; omega⟩
  have hap : ∀ o, o ∈ zd_L 0 → ∀ o', o' ∈ zd_L 1 → bd o' ≠ ad o := fun o ho o' ho' => by
    have h1 := (sm ho).2
    have h2 : zd_M 0 = 139 := rfl
    have h3 := (sm ho).1
    rw [sA o ho, sB o' ho']
    omega
  have hwl : zl_I 0 1 D (fun o => cT (zd_sh 2 o).1) (fun o => cT (zd_sh 3 o).1) ad bd s (zk_f_S_init_1 zt_0) (zk_f_M_init_1 zt_0) H2 locs2 := ⟨q1, q2, hw3.2.2.1.1, fun q h1 h2 => hw3.2.2.1.2.1 q h1 (fun h => h2 (Nat.le_trans (Nat.le_add_right _ _) h)), fun x hx => Nat.le_trans (Nat.le_add_right _ _) (hw3.2.2.1.2.2 x hx)⟩
  exact zl_loop l hL hLK hKK C1 HH1 HH2 hap hstep (KK + 1) 0 _ _ H2 locs2 ls (by omega) (by omega) h0 hwl (lv_sub hl [0, 3, 2, 1] rfl)
