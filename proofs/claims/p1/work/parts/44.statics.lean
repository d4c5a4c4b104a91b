section ZUA
theorem zx_or : ∀ i j, i < 37 → j < 37 → i ≠ j → (zd_tf.getD 0 ("", "", "", [])).2.2.2.getD i 0 ≠ (zd_tf.getD 0 ("", "", "", [])).2.2.2.getD j 0 := by
  intro i j hi hj hij e
  rw [zd_or0 i hi, zd_or0 j hj] at e
  exact hij ((nI_eq (by omega) (by omega)).mp e)
theorem zx_ok : ∀ i j, i < 10 → j < 10 → i ≠ j → (zd_kf.getD 0 ("", "", "", [])).2.2.2.getD i 0 ≠ (zd_kf.getD 0 ("", "", "", [])).2.2.2.getD j 0 := by
  intro i j hi hj hij e
  rw [zd_or1 i hi, zd_or1 j hj] at e
  exact hij ((nI_eq (by omega) (by omega)).mp e)
theorem zx_ot : ∀ i j, i < 37 → j < 10 → i ≠ j → (zd_tf.getD 0 ("", "", "", [])).2.2.2.getD i 0 ≠ (zd_kf.getD 0 ("", "", "", [])).2.2.2.getD j 0 := by
  intro i j hi hj hij e
  rw [zd_or0 i hi, zd_or1 j hj] at e
  exact hij ((nI_eq (by omega) (by omega)).mp e)
theorem zt_ne {args : Array Value} {s : State} {t u : Term} {a b : Nat} {c n d : String} {i j : Int32} (ht : t.eval args s none [] s = some (.ref a)) (hu : u.eval args s none [] s = some (.ref b)) (h1 : (Cond.eq (.field t c n d) (.int i)).before args s = true) (h2 : (Cond.eq (.field u c n d) (.int j)).before args s = true) (hij : i ≠ j) : a ≠ b := by
  intro e
  subst e
  have g1 := va_eqt h1
  have g2 := va_eqt h2
  rw [va_fe ht] at g1
  rw [va_fe hu] at g2
  exact hij (by have := g1.symm.trans g2; cases this; rfl)
theorem zt_not {args : Array Value} {s : State} {t u : Term} {a b : Nat} (ht : t.eval args s none [] s = some (.ref a)) (hu : u.eval args s none [] s = some (.ref b)) (h : a ≠ b) : (Cond.not (.eq t u)).before args s = true := by
  simp [Cond.before, Cond.holds, Cond.value, ht, hu, h]
theorem zt_ev {args : Array Value} {s : State} {t : Term} {C : String} (h : (Cond.exactly t C).before args s = true) : ∃ a : Nat, t.eval args s none [] s = some (.ref a) ∧ a < s.heap.size := by
  obtain ⟨a, c, cell, k, q1, q2, q3, q4, q5, q6, -⟩ := Cond.exactly_spec h
  exact ⟨a, q1, (Array.getElem?_eq_some_iff.mp q3).1⟩
theorem zt_tok {args : Array Value} {s : State} (hg : ∀ c ∈ flatC zu_P, c.before args s = true) (ht : ∀ w ∈ tables_1, w.before args s = true) : ∃ tk kd : Nat → Nat, va_En "ScheduleCheck$Token" "LScheduleCheck$Token;" zd_tn zd_tf tk (fun q => s.heap.size ≤ q) s s.heap ∧ (∀ i, i < 37 → (zu_t i).eval args s none [] s = some (.ref (tk i))) ∧ va_En "ScheduleCheck$Kind" "LScheduleCheck$Kind;" zd_kn zd_kf kd (fun q => s.heap.size ≤ q) s s.heap ∧ (∀ i j, i < 37 → j < 10 → tk i ≠ kd j) ∧ (∀ i, i < 37 → tk i < s.heap.size) ∧ (∀ i, i < 10 → kd i < s.heap.size) := by
  have hA : ∀ a : Nat, a < s.heap.size → ¬ (fun q => s.heap.size ≤ q) a := fun a h => Nat.not_le.mpr h
  have m0 : zd_tf.getD 0 ("", "", "", []) ∈ zd_tf := List.mem_of_getElem? (i := 0) rfl
  have m1 : zd_kf.getD 0 ("", "", "", []) ∈ zd_kf := List.mem_of_getElem? (i := 0) rfl
  obtain ⟨tk, h1, h2⟩ := va_Enof2 (args := args) (s := s) (E := "ScheduleCheck$Token") (d := "LScheduleCheck$Token;") (nm := zd_tn) (F := zd_tf) (A := fun q => s.heap.size ≤ q) (fun i hi => ht _ (zx_tl i hi)) (ht _ zx_in0) (fun i hi => hg _ (zx_te i hi)) (fun q hq i hi => hg _ (zx_tf q hq i hi)) (fun i j hi hj hij => by
    obtain ⟨a, ea, -⟩ := zt_ev (hg _ (zx_te i hi))
    obtain ⟨b, eb, -⟩ := zt_ev (hg _ (zx_te j hj))
    exact Or.inl (zt_not ea eb (zt_ne ea eb (hg _ (zx_tf _ m0 i hi)) (hg _ (zx_tf _ m0 j hj)) (zx_or i j hi hj hij)))) hA
  obtain ⟨kd, h3, h4⟩ := va_Enof2 (args := args) (s := s) (E := "ScheduleCheck$Kind") (d := "LScheduleCheck$Kind;") (nm := zd_kn) (F := zd_kf) (A := fun q => s.heap.size ≤ q) (fun i hi => ht _ (zx_kl i hi)) (ht _ zx_in1) (fun i hi => hg _ (zx_ke i hi)) (fun q hq i hi => hg _ (zx_kf q hq i hi)) (fun i j hi hj hij => by
    obtain ⟨a, ea, -⟩ := zt_ev (hg _ (zx_ke i hi))
    obtain ⟨b, eb, -⟩ := zt_ev (hg _ (zx_ke j hj))
    exact Or.inl (zt_not ea eb (zt_ne ea eb (hg _ (zx_kf _ m1 i hi)) (hg _ (zx_kf _ m1 j hj)) (zx_ok i j hi hj hij)))) hA
  refine ⟨tk, kd, h1, h2, h3, fun i j hi hj => ?_, fun i hi => ?_, fun i hi => ?_⟩
  · by_cases e : i = j
    · subst e
      rcases zx_tn i hj with g | g
      · exact va_neR (hg _ g) (h2 i hi) (h4 i hj)
      · exact fun q => va_neR (hg _ g) (h4 i hj) (h2 i hi) q.symm
    · exact zt_ne (h2 i hi) (h4 j hj) (hg _ (zx_tf _ m0 i hi)) (hg _ (zx_kf _ m1 j hj)) (zx_ot i j hi hj e)
  · obtain ⟨a, ea, ha⟩ := zt_ev (hg _ (zx_te i hi))
    have := (h2 i hi).symm.trans ea
    cases this
    exact ha
  · obtain ⟨a, ea, ha⟩ := zt_ev (hg _ (zx_ke i hi))
    have := (h4 i hi).symm.trans ea
    cases this
    exact ha
theorem zt_Enc {E d : String} {nm : List String} {F : List (String × String × String × List Int32)} {ad ad' : Nat → Nat} {A : Nat → Prop} {U : State} {H : Heap} (h : va_En E d nm F ad A U H) (he : ∀ i, i < nm.length → ad' i = ad i) : va_En E d nm F ad' A U H := by
  refine ⟨fun i hi => ?_, fun i j hi hj e => h.2 i j hi hj (by rw [← he i hi, ← he j hj]; exact e)⟩
  rw [he i hi]
  exact h.1 i hi
theorem zt_Tc {ty : FieldType} {t N : Nat} {f g : Nat → Value} {A : Nat → Prop} {U : State} {H : Heap} (h : va_T ty t N f A U H) (he : ∀ j, j < N → g j = f j) : va_T ty t N g A U H := by
  obtain ⟨cell, h1, h2, h3, h4, h5, h6, h7⟩ := h
  exact ⟨cell, h1, h2, h3, h4, h5, fun j hj => by rw [he j hj]; exact h6 j hj, h7⟩
theorem zt_ad {args : Array Value} {s : State} (hg : ∀ c ∈ flatC zu_P, c.before args s = true) (ht : ∀ w ∈ tables_1, w.before args s = true) : ∃ ad : Nat → Nat, zs_J ad ∧ zs_Z 0 ad (fun q => s.heap.size ≤ q) s s.heap ∧ ∀ o, 1 ≤ o → o ≤ 999 → ad o = s.heap.size + (o - 1) := by
  obtain ⟨tk, kd, h1, h2, h3, h4, h5, h6⟩ := zt_tok hg ht
  have hA : ∀ a : Nat, a < s.heap.size → ¬ (fun q => s.heap.size ≤ q) a := fun a h => Nat.not_le.mpr h
  have hk : va_Ef 37 "ScheduleCheck$Token" "key" "J" (fun i => .long (zd_tk.getD i 0)) tk (fun q => s.heap.size ≤ q) s s.heap := va_Efof (nm := zd_tn) (E := "ScheduleCheck$Token") (d0 := "LScheduleCheck$Token;") (tm := fun i => .long (zd_tk.getD i 0)) (fun i hi => h2 i hi) (fun i hi => hg _ (zx_tk i hi)) (fun i hi => rfl) hA
  obtain ⟨ev, e1, e2⟩ := va_Tof (args := args) (s := s) (tm := zu_e) (ty := .object "ScheduleCheck$Token") (N := 37) (f := fun j => .ref (tk j)) (A := fun q => s.heap.size ≤ q) (by decide) (hg _ zx_ea) (va_eqt (hg _ zx_en)) (fun j hj => va_eqv (hg _ (zx_ee j hj)) (h2 j hj)) hA
  have e3 := va_Zref (A := fun q => s.heap.size ≤ q) (ht _ zx_el) (ht _ zx_in0) e1 hA
  obtain ⟨ma, m1, m2⟩ := va_Tof (args := args) (s := s) (tm := zu_m) (ty := .int) (N := 37) (f := fun j => .int (zd_mt.getD j 0)) (A := fun q => s.heap.size ≤ q) (by decide) (hg _ zx_ma) (va_eqt (hg _ zx_mn)) (fun j hj => va_eqt (hg _ (zx_me j hj))) hA
  have m3 := va_Zref (A := fun q => s.heap.size ≤ q) (ht _ zx_ml) (ht _ zx_in2) m1 hA
  obtain ⟨na, n1, n2⟩ := va_Tof (args := args) (s := s) (tm := zu_n) (ty := .int) (N := 10) (f := fun j => .int (zd_mk.getD j 0)) (A := fun q => s.heap.size ≤ q) (by decide) (hg _ zx_na) (va_eqt (hg _ zx_nn)) (fun j hj => va_eqt (hg _ (zx_ne j hj))) hA
  have n3 := va_Zref (A := fun q => s.heap.size ≤ q) (ht _ zx_nl) (ht _ zx_in2) n1 hA
  obtain ⟨ad, hd⟩ : ∃ ad : Nat → Nat, ∀ o, ad o = if 1 ≤ o ∧ o ≤ 999 then s.heap.size + (o - 1) else if 1000 ≤ o ∧ o < 1037 then tk (o - 1000) else if 1100 ≤ o ∧ o < 1110 then kd (o - 1100) else if o = 1200 then ev else if o = 1201 then ma else if o = 1202 then na else s.heap.size + 10000 + o := ⟨_, fun _ => rfl⟩
  have aN : ∀ o, 1 ≤ o → o ≤ 999 → ad o = s.heap.size + (o - 1) := fun o g1 g2 => by rw [hd, if_pos ⟨g1, g2⟩]
  have aT : ∀ i, i < 37 → ad (1000 + i) = tk i := fun i hi => by rw [hd, if_neg (by omega), if_pos (by omega), Nat.add_sub_cancel_left]
  have aK : ∀ i, i < 10 → ad (1100 + i) = kd i := fun i hi => by rw [hd, if_neg (by omega), if_neg (by omega), if_pos (by omega), Nat.add_sub_cancel_left]
  have aE : ad 1200 = ev := by rw [hd]; rfl
  have aM : ad 1201 = ma := by rw [hd]; rfl
  have aO : ad 1202 = na := by rw [hd]; rfl
  have cs : ∀ a, a < 1200 → (1 ≤ a ∧ a ≤ 999 ∧ ad a = s.heap.size + (a - 1)) ∨ (∃ i, i < 37 ∧ a = 1000 + i ∧ ad a = tk i) ∨ (∃ i, i < 10 ∧ a = 1100 + i ∧ ad a = kd i) ∨ ad a = s.heap.size + 10000 + a := by
    intro a ha
    by_cases g1 : 1 ≤ a ∧ a ≤ 999
    · exact Or.inl ⟨g1.1, g1.2, aN a g1.1 g1.2⟩
    · by_cases g2 : 1000 ≤ a ∧ a < 1037
      · exact Or.inr (Or.inl ⟨a - 1000, by omega, by omega, by rw [hd, if_neg g1, if_pos g2]⟩)
      · by_cases g3 : 1100 ≤ a ∧ a < 1110
        · exact Or.inr (Or.inr (Or.inl ⟨a - 1100, by omega, by omega, by rw [hd, if_neg g1, if_neg g2, if_pos g3]⟩))
        · exact Or.inr (Or.inr (Or.inr (by rw [hd, if_neg g1, if_neg g2, if_neg g3, if_neg (by omega), if_neg (by omega), if_neg (by omega)])))
  refine ⟨ad, fun a b ha hb e => ?_, ⟨fun _ => ?_, fun h => absurd h (by decide)⟩, aN⟩
  · rcases cs a ha with ⟨a1, a2, a3⟩ | ⟨i, a1, a2, a3⟩ | ⟨i, a1, a2, a3⟩ | a3
    · rcases cs b hb with ⟨b1, b2, b3⟩ | ⟨j, b1, b2, b3⟩ | ⟨j, b1, b2, b3⟩ | b3
      · omega
      · have := h5 j b1; omega
      · have := h6 j b1; omega
      · omega
    · have g := h5 i a1
      rcases cs b hb with ⟨b1, b2, b3⟩ | ⟨j, b1, b2, b3⟩ | ⟨j, b1, b2, b3⟩ | b3
      · omega
      · have := h1.2 i j a1 b1 (by rw [← a3, ← b3]; exact e); omega
      · exact absurd (by rw [← a3, ← b3]; exact e) (h4 i j a1 b1)
      · omega
    · have g := h6 i a1
      rcases cs b hb with ⟨b1, b2, b3⟩ | ⟨j, b1, b2, b3⟩ | ⟨j, b1, b2, b3⟩ | b3
      · omega
      · exact absurd (by rw [← a3, ← b3]; exact e.symm) (h4 j i b1 a1)
      · have := h3.2 i j a1 b1 (by rw [← a3, ← b3]; exact e); omega
      · omega
    · rcases cs b hb with ⟨b1, b2, b3⟩ | ⟨j, b1, b2, b3⟩ | ⟨j, b1, b2, b3⟩ | b3
      · omega
      · have := h5 j b1; omega
      · have := h6 j b1; omega
      · omega
  · refine ⟨zt_Enc h1 (fun i hi => aT i hi), fun i hi => ?_, zt_Enc h3 (fun i hi => aK i hi), by rw [aE]; exact e3, ?_, by rw [aM]; exact m3, by rw [aM]; exact m2, by rw [aO]; exact n3, by rw [aO]; exact n2, va_Nw.of rfl (ht _ zx_nest)⟩
    · show va_OF _ _ _ _ (ad (1000 + i)) _ _ _
      rw [aT i hi]
      exact hk i hi
    · rw [aE]
      exact zt_Tc e2 (fun j hj => by rw [aT j hj])
theorem zx_sd : ∀ i, i < 32 → ∀ j, j < 32 → i ≠ j → (Int32.ofNat (zd_sl.getD i 0) ≠ Int32.ofNat (zd_sl.getD j 0) ∨ ∃ k, k < 6 ∧ (k < zd_sl.getD i 0 ∧ k < zd_sl.getD j 0 ∧ (zd_sb.getD i []).getD k 0 ≠ (zd_sb.getD j []).getD k 0)) := by decide +kernel
theorem zx_s31 : ∀ i, i < 32 → zd_sl.getD i 0 < 2 ^ 31 := by decide +kernel
theorem zt_str {args : Array Value} {s : State} (hg : ∀ c ∈ flatC zu_P, c.before args s = true) (ht : ∀ w ∈ tables_1, w.before args s = true) : ∃ sk sv : Nat → Nat, vk_S 32 zd_sl zd_sb sk sv (fun q => s.heap.size ≤ q) s s.heap ∧ ∀ i, i < 32 → (zu_s i).eval args s none [] s = some (.ref (sk i)) := by
  have hA : ∀ a : Nat, a < s.heap.size → ¬ (fun q => s.heap.size ≤ q) a := fun a h => Nat.not_le.mpr h
  refine vk_Sof (tm := zu_s) zx_s31 (fun i hi => hg _ (zx_se i hi)) (fun i hi => hg _ (zx_sc i hi)) (fun i hi => hg _ (zx_sa i hi)) (fun i hi => hg _ (zx_sn i hi)) (fun i hi j hj => hg _ (zx_sb i hi j hj)) (fun i j hi hj hij => ?_) hA
  obtain ⟨a, ea, -⟩ := zt_ev (hg _ (zx_se i hi))
  obtain ⟨b, eb, -⟩ := zt_ev (hg _ (zx_se j hj))
  refine Or.inl (zt_not ea eb (fun e => ?_))
  subst e
  have ev : (zu_v i).eval args s none [] s = (zu_v j).eval args s none [] s := by rw [va_fe ea, va_fe eb]
  have el : (Term.length (zu_v i)).eval args s none [] s = (Term.length (zu_v j)).eval args s none [] s := by simp only [Term.eval] at ev ⊢; rw [ev]
  rcases zx_sd i hi j hj hij with g | ⟨k, -, g1, g2, g3⟩
  · have := ((va_eqt (hg _ (zx_sn i hi))).symm.trans el).trans (va_eqt (hg _ (zx_sn j hj)))
    exact g (Value.int.inj (Option.some.inj this))
  · have ee : (Term.elem (zu_v i) (.int (Int32.ofNat k))).eval args s none [] s = (Term.elem (zu_v j) (.int (Int32.ofNat k))).eval args s none [] s := by simp only [Term.eval] at ev ⊢; rw [ev]
    have := ((va_eqt (hg _ (zx_sb i hi k g1))).symm.trans ee).trans (va_eqt (hg _ (zx_sb j hj k g2)))
    exact g3 (Value.int.inj (Option.some.inj this))
theorem zt_bd {args : Array Value} {s : State} (hg : ∀ c ∈ flatC zu_P, c.before args s = true) (ht : ∀ w ∈ tables_1, w.before args s = true) : ∃ bd : Nat → Nat, zs_J bd ∧ zs_Z 1 bd (fun q => s.heap.size ≤ q) s s.heap ∧ ∀ o, 1 ≤ o → o ≤ 999 → bd o = s.heap.size + 139 + (o - 1) := by
  have hA : ∀ a : Nat, a < s.heap.size → ¬ (fun q => s.heap.size ≤ q) a := fun a h => Nat.not_le.mpr h
  obtain ⟨sk, sv, h1, h2⟩ := zt_str hg ht
  obtain ⟨bd, hd⟩ : ∃ bd : Nat → Nat, ∀ o, bd o = if 1 ≤ o ∧ o ≤ 999 then s.heap.size + 139 + (o - 1) else if 1300 ≤ o ∧ o < 1332 then sk (o - 1300) else if 1400 ≤ o ∧ o < 1432 then sv (o - 1400) else s.heap.size + 10000 + o := ⟨_, fun _ => rfl⟩
  have aN : ∀ o, 1 ≤ o → o ≤ 999 → bd o = s.heap.size + 139 + (o - 1) := fun o g1 g2 => by rw [hd, if_pos ⟨g1, g2⟩]
  have aK : ∀ i, i < 32 → bd (1300 + i) = sk i := fun i hi => by rw [hd, if_neg (by omega), if_pos (by omega), Nat.add_sub_cancel_left]
  have aV : ∀ i, i < 32 → bd (1400 + i) = sv i := fun i hi => by rw [hd, if_neg (by omega), if_neg (by omega), if_pos (by omega), Nat.add_sub_cancel_left]
  have cs : ∀ a, a < 1200 → (1 ≤ a ∧ a ≤ 999 ∧ bd a = s.heap.size + 139 + (a - 1)) ∨ ((a = 0 ∨ 1000 ≤ a) ∧ bd a = s.heap.size + 10000 + a) := by
    intro a ha
    by_cases g1 : 1 ≤ a ∧ a ≤ 999
    · exact Or.inl ⟨g1.1, g1.2, aN a g1.1 g1.2⟩
    · exact Or.inr ⟨by omega, by rw [hd, if_neg g1, if_neg (by omega), if_neg (by omega)]⟩
  refine ⟨bd, fun a b ha hb e => ?_, ⟨fun h => absurd h (by decide), fun _ => ⟨⟨fun i hi => ?_, fun i j hi hj e => ?_⟩, va_Zof (ht _ zx_cl) (ht _ zx_in3) (va_eqt (hg _ zx_cs)) hA, fun i hi => ?_, va_Zqof (ht _ zx_fl) (ht _ zx_in4) (hg _ zx_fr) hA⟩⟩, aN⟩
  · rcases cs a ha with ⟨a1, a2, a3⟩ | ⟨a1, a3⟩ <;> rcases cs b hb with ⟨b1, b2, b3⟩ | ⟨b1, b3⟩ <;> omega
  · show va_O _ (bd (1300 + i)) _ _ _ ∧ va_OF _ _ _ _ (bd (1300 + i)) _ _ _ ∧ va_OF _ _ _ (.ref (bd (1400 + i))) (bd (1300 + i)) _ _ _ ∧ va_T _ (bd (1400 + i)) _ _ _ _ _
    rw [aK i hi, aV i hi]
    exact h1.1 i hi
  · have e : bd (1300 + i) = bd (1300 + j) := e
    rw [aK i hi, aK j hj] at e
    exact h1.2 i j hi hj e
  · rw [aK i hi]
    exact vk_R.of (ht _ (zx_sr i hi)) (h2 i hi)
end ZUA
