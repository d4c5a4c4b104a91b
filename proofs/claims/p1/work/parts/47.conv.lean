section ZWA
theorem zt_t0 (cA : Nat → ClassId) : zs_t 0 cA = zs_t 2 cA := by
  unfold zs_t
  rw [show zd_LA 0 = zd_LA 2 by decide +kernel]
  refine List.map_congr_left (fun o ho => ?_)
  rw [(by decide +kernel : ∀ o ∈ zd_LA 2, zd_ty (zd_sh 0 o).1 = zd_ty (zd_sh 2 o).1) o ho]
theorem zt_t1 (cA : Nat → ClassId) : zs_t 1 cA = zs_t 3 cA := by
  unfold zs_t
  rw [show zd_LA 1 = zd_LA 3 by decide +kernel]
  refine List.map_congr_left (fun o ho => ?_)
  rw [(by decide +kernel : ∀ o ∈ zd_LA 3, zd_ty (zd_sh 1 o).1 = zd_ty (zd_sh 3 o).1) o ho]
theorem zt_s0 : ∀ o ∈ zd_L 0, (10 ≤ (zd_sh 0 o).1 ∧ (zd_sh 2 o).1 = (zd_sh 0 o).1 ∧ zd_N ((zd_sh 0 o).1 - 10) ≤ 60) ∨ ((zd_sh 0 o).1 < 5 ∧ zd_sh 2 o = zd_sh 0 o) ∨ ((zd_sh 0 o).1 = 5 ∧ (zd_sh 2 o).1 = 7 ∧ (zd_sh 2 o).2 = (zd_sh 0 o).2 ∧ (zd_sh 0 o).2 ≤ 60) := by decide +kernel
theorem zt_c0 {D : va_G} {cA : Nat → ClassId} {ad : Nat → Nat} {σ : zs_S} {H : Heap} (hok : zt_ok 0 σ = true) (hP : va_P D zd_cl (zk_w 2 139 cA ad σ) H) : va_P D zd_cl (zs_w 0 cA ad σ) H := by
  intro k x hx
  simp only [zs_w, List.getElem?_map] at hx
  cases h1 : (zd_L 0)[k]? with
  | none => rw [h1] at hx; cases hx
  | some o =>
    rw [h1] at hx
    cases hx
    have ho : o ∈ zd_L 0 := List.mem_of_getElem? h1
    show va_at D zd_cl (ad o, zs_c 0 cA ad σ o) H
    have hat : va_at D zd_cl (ad o, zs_c 2 cA ad σ o) H := by
      refine hP k _ ?_
      show ((List.range' 1 139).map _)[k]? = _
      rw [List.getElem?_map, show (List.range' 1 139)[k]? = some o from h1]
      rfl
    rcases zt_s0 o ho with ⟨g1, g2, g3⟩ | ⟨g1, g2⟩ | ⟨g1, g2, g3, g4⟩
    · obtain ⟨ci, hci⟩ : ∃ ci, (zd_sh 0 o).1 = 10 + ci := ⟨(zd_sh 0 o).1 - 10, by omega⟩
      rw [zs_co (g2.trans hci)] at hat
      rw [zs_co hci]
      have e : (List.range (zd_N ci)).map (zs_f 2 ad (zs_i σ o) (zs_l σ o) (zs_r σ o) ci o) = (List.range (zd_N ci)).map (zs_f 0 ad (zs_i σ o) (zs_l σ o) (zs_r σ o) ci o) := by
        refine List.map_congr_left (fun i hi => ?_)
        have hi := List.mem_range.mp hi
        rw [hci, Nat.add_sub_cancel_left] at g3
        have hz := (zt_oks hok ho (k := i) (by omega)).1 g1
        rw [hci, Nat.add_sub_cancel_left] at hz
        unfold zs_f zd_ft
        generalize (zd_F.getD ci []).getD i 9 = t at hz
        match t with
        | 0 => rfl
        | 1 => rfl
        | 2 => rfl
        | 3 =>
          show va_rf (zs_o ad (zs_r σ o i)) = va_rf (zs_o ad (zd_rf 0 o i))
          rw [hz rfl]
        | n + 4 =>
          show va_rf (zs_o ad (zd_rf 2 o i)) = va_rf (zs_o ad (zd_rf 0 o i))
          rfl
      rw [← e]
      exact hat
    · have e : zs_c 2 cA ad σ o = zs_c 0 cA ad σ o := by
        unfold zs_c zs_e
        rw [g2, if_pos (by omega), if_pos (by omega)]
        generalize (zd_sh 0 o).1 = t at g1
        match t, g1 with
        | 0, _ => rfl
        | 1, _ => rfl
        | 2, _ => rfl
        | 3, _ => rfl
        | 4, _ => rfl
      rw [← e]
      exact hat
    · rw [zs_ca g2 g3 (by omega)] at hat
      rw [zs_ca g1 rfl (by omega)]
      have hat : H[ad o]? = some (vp_cell (cA o) ((zd_sh 0 o).2, .inr (.inr (.inr (.inr (fun k => zs_o ad (zs_r σ o k))))))) := hat
      show H[ad o]? = some (vp_cell (cA o) ((zd_sh 0 o).2, .inr (.inr (.inr (.inr (fun k => zs_o ad (zd_rf 0 o k)))))))
      rw [hat]
      refine congrArg some (zt_vc (fun i hi => ?_))
      rw [(zt_oks hok ho (k := i) (by omega)).2 (by omega)]
theorem zt_s1 : ∀ o ∈ zd_L 1, (10 ≤ (zd_sh 1 o).1 ∧ (zd_sh 3 o).1 = (zd_sh 1 o).1 ∧ zd_N ((zd_sh 1 o).1 - 10) ≤ 60) ∨ ((zd_sh 1 o).1 < 5 ∧ zd_sh 3 o = zd_sh 1 o) ∨ ((zd_sh 1 o).1 = 6 ∧ (zd_sh 3 o).1 = 8 ∧ (zd_sh 3 o).2 = (zd_sh 1 o).2 ∧ (zd_sh 1 o).2 ≤ 60) := by decide +kernel
theorem zt_c1 {D : va_G} {cA : Nat → ClassId} {ad : Nat → Nat} {σ : zs_S} {H : Heap} (hok : zt_ok 1 σ = true) (hP : va_P D zd_cl (zk_w 3 67 cA ad σ) H) : va_P D zd_cl (zs_w 1 cA ad σ) H := by
  intro k x hx
  simp only [zs_w, List.getElem?_map] at hx
  cases h1 : (zd_L 1)[k]? with
  | none => rw [h1] at hx; cases hx
  | some o =>
    rw [h1] at hx
    cases hx
    have ho : o ∈ zd_L 1 := List.mem_of_getElem? h1
    show va_at D zd_cl (ad o, zs_c 1 cA ad σ o) H
    have hat : va_at D zd_cl (ad o, zs_c 3 cA ad σ o) H := by
      refine hP k _ ?_
      show ((List.range' 1 67).map _)[k]? = _
      rw [List.getElem?_map, show (List.range' 1 67)[k]? = some o from h1]
      rfl
    rcases zt_s1 o ho with ⟨g1, g2, g3⟩ | ⟨g1, g2⟩ | ⟨g1, g2, g3, g4⟩
    · obtain ⟨ci, hci⟩ : ∃ ci, (zd_sh 1 o).1 = 10 + ci := ⟨(zd_sh 1 o).1 - 10, by omega⟩
      rw [zs_co (g2.trans hci)] at hat
      rw [zs_co hci]
      have e : (List.range (zd_N ci)).map (zs_f 3 ad (zs_i σ o) (zs_l σ o) (zs_r σ o) ci o) = (List.range (zd_N ci)).map (zs_f 1 ad (zs_i σ o) (zs_l σ o) (zs_r σ o) ci o) := by
        refine List.map_congr_left (fun i hi => ?_)
        have hi := List.mem_range.mp hi
        rw [hci, Nat.add_sub_cancel_left] at g3
        have hz := (zt_oks hok ho (k := i) (by omega)).1 g1
        rw [hci, Nat.add_sub_cancel_left] at hz
        unfold zs_f zd_ft
        generalize (zd_F.getD ci []).getD i 9 = t at hz
        match t with
        | 0 => rfl
        | 1 => rfl
        | 2 => rfl
        | 3 =>
          show va_rf (zs_o ad (zs_r σ o i)) = va_rf (zs_o ad (zd_rf 1 o i))
          rw [hz rfl]
        | n + 4 =>
          show va_rf (zs_o ad (zd_rf 3 o i)) = va_rf (zs_o ad (zd_rf 1 o i))
          rfl
      rw [← e]
      exact hat
    · have e : zs_c 3 cA ad σ o = zs_c 1 cA ad σ o := by
        unfold zs_c zs_e
        rw [g2, if_pos (by omega), if_pos (by omega)]
        generalize (zd_sh 1 o).1 = t at g1
        match t, g1 with
        | 0, _ => rfl
        | 1, _ => rfl
        | 2, _ => rfl
        | 3, _ => rfl
        | 4, _ => rfl
      rw [← e]
      exact hat
    · rw [zs_ca g2 g3 (by omega)] at hat
      rw [zs_ca g1 rfl (by omega)]
      have hat : H[ad o]? = some (vp_cell (cA o) ((zd_sh 1 o).2, .inr (.inr (.inr (.inr (fun k => zs_o ad (zs_r σ o k))))))) := hat
      show H[ad o]? = some (vp_cell (cA o) ((zd_sh 1 o).2, .inr (.inr (.inr (.inr (fun k => zs_o ad (zd_rf 1 o k)))))))
      rw [hat]
      refine congrArg some (zt_vc (fun i hi => ?_))
      rw [(zt_oks hok ho (k := i) (by omega)).2 (by omega)]
theorem zt_k0 : zt_ok 0 (zk_f_S_init_1 zt_0) = true := by decide +kernel
theorem zt_k1 : zt_ok 1 (zk_f_M_init_1 zt_0) = true := by decide +kernel
end ZWA
