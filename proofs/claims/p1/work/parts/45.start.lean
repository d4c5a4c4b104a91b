theorem zn6_0 : Cond.arrayClass FieldType.int ∈ zd_ww := zd_me 59 (by decide +kernel) (by decide +kernel)
theorem zn6_1 : Cond.arrayClass FieldType.byte ∈ zd_ww := zd_me 58 (by decide +kernel) (by decide +kernel)
theorem zn6_2 : Cond.arrayClass FieldType.boolean ∈ zd_ww := zd_me 980 (by decide +kernel) (by decide +kernel)
theorem zn6_3 : Cond.arrayClass FieldType.long ∈ zd_ww := zd_me 60 (by decide +kernel) (by decide +kernel)
theorem zn6_4 : Cond.instantiable "ScheduleCheck" 9 ∈ zd_ww := zd_me 24 (by decide +kernel) (by decide +kernel)
theorem zn6_5 : Cond.instantiable "ScheduleCheck$Tokens" 5 ∈ zd_ww := zd_me 32 (by decide +kernel) (by decide +kernel)
theorem zn6_6 : Cond.instantiable "ScheduleCheck$Parser" 11 ∈ zd_ww := zd_me 62 (by decide +kernel) (by decide +kernel)
theorem zn6_7 : Cond.instantiable "ScheduleCheck$States" 12 ∈ zd_ww := zd_me 102 (by decide +kernel) (by decide +kernel)
theorem zn6_8 : Cond.instantiable "ScheduleCheck$Explorer" 2 ∈ zd_ww := zd_me 287 (by decide +kernel) (by decide +kernel)
theorem zn6_9 : Cond.instantiable "ScheduleCheck$Program" 9 ∈ zd_ww := zd_me 154 (by decide +kernel) (by decide +kernel)
theorem zn6_10 : Cond.instantiable "ScheduleCheck$Statement" 9 ∈ zd_ww := zd_me 161 (by decide +kernel) (by decide +kernel)
theorem zn6_11 : Cond.instantiable "ScheduleCheck$Code" 4 ∈ zd_ww := zd_me 217 (by decide +kernel) (by decide +kernel)
theorem zn6_12 : Cond.instantiable "ScheduleCheckModel" 31 ∈ zd_ww := zd_me 806 (by decide +kernel) (by decide +kernel)
theorem zn6_13 : Cond.instantiable "ScheduleCheckModel$Program" 13 ∈ zd_ww := zd_me 812 (by decide +kernel) (by decide +kernel)
theorem zn6_14 : Cond.instantiable "ScheduleCheckModel$Names" 3 ∈ zd_ww := zd_me 818 (by decide +kernel) (by decide +kernel)
section ZTA
def zt_0 : zs_S := (fun _ _ => 0, fun _ _ => 0, fun _ _ => 0)
theorem zt_ar {args : Array Value} {s : State} (hts : ∀ w ∈ zd_ww, w.before args s = true) (h4 : va_AO "ScheduleCheck$Token" s) (h5 : va_AO "ScheduleCheck$Statement" s) (h6 : va_AO "ScheduleCheckModel$Names" s) : ∃ cT : Nat → ClassId, ∀ t, t < 10 → ArrOfT s (cT t) (zd_ty t) ∧ va_RA s (cT t) (zd_ty t) := by
  have hp : ∀ ty : FieldType, (Cond.arrayClass ty).before args s = true → ∃ c : ClassId, ArrOfT s c ty ∧ s.vm.findClass ("[" ++ ty.toString) = some c := by
    intro ty h
    obtain ⟨c, k, comp, g1, g2, g3⟩ := Cond.arrayClass_spec h
    exact ⟨c, fun n z => ⟨fun k h => (by cases h), k, g2, comp, g3⟩, g1⟩
  have hq : ∀ C : String, va_AO C s → ∃ c : ClassId, ArrOfT s c (.object C) ∧ va_RA s c (.object C) := by
    intro C h
    obtain ⟨comp, c, k, g1, g2, g3, g4, g5⟩ := Cond.arrayOver_spec h
    exact ⟨c, fun n z => ⟨fun k h => (by cases h), k, g3, comp, g4⟩, k, comp, g3, g4, g1, g5⟩
  have h : ∀ t, ∃ c : ClassId, t < 10 → ArrOfT s c (zd_ty t) ∧ va_RA s c (zd_ty t) := by
    intro t
    match t with
    | 0 => obtain ⟨c, g⟩ := hp .int (hts _ zn6_0); exact ⟨c, fun _ => g⟩
    | 1 => obtain ⟨c, g⟩ := hp .byte (hts _ zn6_1); exact ⟨c, fun _ => g⟩
    | 2 => obtain ⟨c, g⟩ := hp .boolean (hts _ zn6_2); exact ⟨c, fun _ => g⟩
    | 3 => obtain ⟨c, g⟩ := hp .long (hts _ zn6_3); exact ⟨c, fun _ => g⟩
    | 4 => obtain ⟨c, g⟩ := hq _ h4; exact ⟨c, fun _ => g⟩
    | 5 => obtain ⟨c, g⟩ := hq _ h5; exact ⟨c, fun _ => g⟩
    | 6 => obtain ⟨c, g⟩ := hq _ h6; exact ⟨c, fun _ => g⟩
    | 7 => obtain ⟨c, g⟩ := hq _ h5; exact ⟨c, fun _ => g⟩
    | 8 => obtain ⟨c, g⟩ := hq _ h6; exact ⟨c, fun _ => g⟩
    | n + 9 => obtain ⟨c, g⟩ := hq _ h6; exact ⟨c, fun _ => g⟩
  obtain ⟨cT, hT⟩ := Classical.axiomOfChoice h
  exact ⟨cT, hT⟩
theorem zt_K {args : Array Value} {s : State} (hts : ∀ w ∈ zd_ww, w.before args s = true) (h4 : va_AO "ScheduleCheck$Token" s) (h5 : va_AO "ScheduleCheck$Statement" s) (h6 : va_AO "ScheduleCheckModel$Names" s) : ∃ (D : va_G) (cT : Nat → ClassId), ∀ w, va_K D zd_cl (zs_t w (fun o => cT (zd_sh w o).1)) s := by
  have h : ∀ c : Nat, ∃ q : ClassId × (Nat → Nat), ∀ r : vw_C, zd_cl[c]? = some r → u_Kn s r.1 r.2.1 r.2.2 q.1 q.2 := by
    intro c
    by_cases h0 : c = 0
    · subst h0
      obtain ⟨cC, iS, g⟩ := u_known hts zi_0 (hts _ zn6_4)
      refine ⟨(cC, iS), fun r hr => ?_⟩
      have e := Option.some.inj (show some ("ScheduleCheck", F_zd0, 9) = some r from hr)
      subst e
      exact g
    by_cases h1 : c = 1
    · subst h1
      obtain ⟨cC, iS, g⟩ := u_known hts zi_1 (hts _ zn6_5)
      refine ⟨(cC, iS), fun r hr => ?_⟩
      have e := Option.some.inj (show some ("ScheduleCheck$Tokens", F_zd1, 5) = some r from hr)
      subst e
      exact g
    by_cases h2 : c = 2
    · subst h2
      obtain ⟨cC, iS, g⟩ := u_known hts zi_2 (hts _ zn6_6)
      refine ⟨(cC, iS), fun r hr => ?_⟩
      have e := Option.some.inj (show some ("ScheduleCheck$Parser", F_zd2, 11) = some r from hr)
      subst e
      exact g
    by_cases h3 : c = 3
    · subst h3
      obtain ⟨cC, iS, g⟩ := u_known hts zi_3 (hts _ zn6_7)
      refine ⟨(cC, iS), fun r hr => ?_⟩
      have e := Option.some.inj (show some ("ScheduleCheck$States", F_zd3, 12) = some r from hr)
      subst e
      exact g
    by_cases h4 : c = 4
    · subst h4
      obtain ⟨cC, iS, g⟩ := u_known hts zi_4 (hts _ zn6_8)
      refine ⟨(cC, iS), fun r hr => ?_⟩
      have e := Option.some.inj (show some ("ScheduleCheck$Explorer", F_zd4, 2) = some r from hr)
      subst e
      exact g
    by_cases h5 : c = 5
    · subst h5
      obtain ⟨cC, iS, g⟩ := u_known hts zi_5 (hts _ zn6_9)
      refine ⟨(cC, iS), fun r hr => ?_⟩
      have e := Option.some.inj (show some ("ScheduleCheck$Program", F_zd5, 9) = some r from hr)
      subst e
      exact g
    by_cases h6 : c = 6
    · subst h6
      obtain ⟨cC, iS, g⟩ := u_known hts zi_6 (hts _ zn6_10)
      refine ⟨(cC, iS), fun r hr => ?_⟩
      have e := Option.some.inj (show some ("ScheduleCheck$Statement", F_zd6, 9) = some r from hr)
      subst e
      exact g
    by_cases h7 : c = 7
    · subst h7
      obtain ⟨cC, iS, g⟩ := u_known hts zi_7 (hts _ zn6_11)
      refine ⟨(cC, iS), fun r hr => ?_⟩
      have e := Option.some.inj (show some ("ScheduleCheck$Code", F_zd7, 4) = some r from hr)
      subst e
      exact g
    by_cases h8 : c = 8
    · subst h8
      obtain ⟨cC, iS, g⟩ := u_known hts zi_8 (hts _ zn6_12)
      refine ⟨(cC, iS), fun r hr => ?_⟩
      have e := Option.some.inj (show some ("ScheduleCheckModel", F_zd8, 31) = some r from hr)
      subst e
      exact g
    by_cases h9 : c = 9
    · subst h9
      obtain ⟨cC, iS, g⟩ := u_known hts zi_9 (hts _ zn6_13)
      refine ⟨(cC, iS), fun r hr => ?_⟩
      have e := Option.some.inj (show some ("ScheduleCheckModel$Program", F_zd9, 13) = some r from hr)
      subst e
      exact g
    by_cases h10 : c = 10
    · subst h10
      obtain ⟨cC, iS, g⟩ := u_known hts zi_10 (hts _ zn6_14)
      refine ⟨(cC, iS), fun r hr => ?_⟩
      have e := Option.some.inj (show some ("ScheduleCheckModel$Names", F_zd10, 3) = some r from hr)
      subst e
      exact g
    refine ⟨(0, fun _ => 0), fun r hr => ?_⟩
    have h9 := (List.getElem?_eq_some_iff.mp hr).1
    have h10 : zd_cl.length = 11 := rfl
    omega
  obtain ⟨f, hf⟩ := Classical.axiomOfChoice h
  obtain ⟨cT, hT⟩ := zt_ar hts h4 h5 h6
  refine ⟨(fun c => (f c).1, fun c => (f c).2), cT, fun w => ⟨fun c q hq => hf c q hq, fun k q hk => ?_⟩⟩
  obtain ⟨o, ho, e⟩ := List.mem_map.mp (List.mem_of_getElem? hk)
  have h9 := (List.mem_filter.mp ho).2
  subst e
  exact hT _ (of_decide_eq_true h9)
theorem zt_vc {cA : ClassId} {n : Nat} {f g : Nat → Option Nat} (h : ∀ k, k < n → f k = g k) : vp_cell cA (n, .inr (.inr (.inr (.inr f)))) = vp_cell cA (n, .inr (.inr (.inr (.inr g)))) := by
  rw [vp_cell_q, vp_cell_q]
  unfold arrV
  have e : (fun j : Fin n => va_rf (f j.val)) = (fun j : Fin n => va_rf (g j.val)) := funext (fun j => by rw [h j.val j.isLt])
  rw [e]
/-- where what is set at the making holds what zd_rf says, the made world is the steady one -/
def zt_ok (w : Nat) (σ : zs_S) : Bool := (List.range (zd_M w + 1)).all (fun o => (List.range 60).all (fun k =>
  (!(decide (10 ≤ (zd_sh w o).1) && decide ((zd_F.getD ((zd_sh w o).1 - 10) []).getD k 9 = 3)) || decide (zs_r σ o k = zd_rf w o k)) &&
  (!(decide ((zd_sh w o).1 = 5) || decide ((zd_sh w o).1 = 6)) || decide (zs_r σ o k = zd_rf w o k))))
theorem zt_oks {w o k : Nat} {σ : zs_S} (h : zt_ok w σ = true) (ho : o ∈ zd_L w) (hk : k < 60) : (10 ≤ (zd_sh w o).1 → (zd_F.getD ((zd_sh w o).1 - 10) []).getD k 9 = 3 → zs_r σ o k = zd_rf w o k) ∧ ((zd_sh w o).1 = 5 ∨ (zd_sh w o).1 = 6 → zs_r σ o k = zd_rf w o k) := by
  have h1 := List.mem_range'_1.mp ho
  have h2 := List.all_eq_true.mp (List.all_eq_true.mp h o (List.mem_range.mpr (by omega))) k (List.mem_range.mpr hk)
  obtain ⟨h3, h4⟩ := Bool.and_eq_true_iff.mp h2
  refine ⟨fun g1 g2 => ?_, fun g => ?_⟩
  · rcases (Bool.or_eq_true _ _).mp h3 with h5 | h5
    · rw [decide_eq_true g1, decide_eq_true g2] at h5
      exact absurd h5 (by decide)
    · exact of_decide_eq_true h5
  · rcases (Bool.or_eq_true _ _).mp h4 with h5 | h5
    · rcases g with g | g
      · rw [decide_eq_true g, Bool.true_or] at h5
        exact absurd h5 (by decide)
      · rw [decide_eq_true g, Bool.or_true] at h5
        exact absurd h5 (by decide)
    · exact of_decide_eq_true h5
end ZTA
