theorem zx_ke : ∀ i, i < 10 → Cond.exactly (zu_k i) "ScheduleCheck$Kind" ∈ flatC zu_P := fun i hi => List.mem_of_getElem? ((by decide +kernel : ∀ i, i < 10 → (flatC zu_P)[([153, 176, 190, 193, 179, 187, 196, 199, 207, 4] : List Nat).getD i 0]? = some (Cond.exactly (zu_k i) "ScheduleCheck$Kind")) i hi)
theorem zx_kf0 : ∀ i, i < 10 → Cond.eq (.field (zu_k i) "java/lang/Enum" "ordinal" "I") (.int ((zd_kf.getD 0 ("", "", "", [])).2.2.2.getD i 0)) ∈ flatC zu_P := fun i hi => List.mem_of_getElem? ((by decide +kernel : ∀ i, i < 10 → (flatC zu_P)[([154, 177, 191, 194, 180, 188, 197, 200, 208, 5] : List Nat).getD i 0]? = some (Cond.eq (.field (zu_k i) "java/lang/Enum" "ordinal" "I") (.int ((zd_kf.getD 0 ("", "", "", [])).2.2.2.getD i 0)))) i hi)
theorem zx_kf : ∀ q ∈ zd_kf, ∀ i, i < 10 → Cond.eq (.field (zu_k i) q.1 q.2.1 q.2.2.1) (.int (q.2.2.2.getD i 0)) ∈ flatC zu_P := by
  intro q hq
  obtain ⟨k, hk⟩ := List.getElem?_of_mem hq
  match k with
  | 0 => have e := Option.some.inj (show some (zd_kf.getD 0 ("", "", "", [])) = some q from hk); subst e; exact zx_kf0
  | n + 1 => exact absurd (List.getElem?_eq_some_iff.mp hk).1 (by show ¬ n + 1 < 1; omega)
theorem zx_tn : ∀ i, i < 10 → Cond.not (.eq (zu_t i) (zu_k i)) ∈ flatC zu_P ∨ Cond.not (.eq (zu_k i) (zu_t i)) ∈ flatC zu_P := by
  intro i hi
  by_cases h0 : i = 0
  · subst h0; exact Or.inl (List.mem_of_getElem? (i := 155) (by decide +kernel))
  by_cases h1 : i = 1
  · subst h1; exact Or.inl (List.mem_of_getElem? (i := 178) (by decide +kernel))
  by_cases h2 : i = 2
  · subst h2; exact Or.inl (List.mem_of_getElem? (i := 192) (by decide +kernel))
  by_cases h3 : i = 3
  · subst h3; exact Or.inl (List.mem_of_getElem? (i := 195) (by decide +kernel))
  by_cases h4 : i = 4
  · subst h4; exact Or.inl (List.mem_of_getElem? (i := 181) (by decide +kernel))
  by_cases h5 : i = 5
  · subst h5; exact Or.inl (List.mem_of_getElem? (i := 189) (by decide +kernel))
  by_cases h6 : i = 6
  · subst h6; exact Or.inl (List.mem_of_getElem? (i := 198) (by decide +kernel))
  by_cases h7 : i = 7
  · subst h7; exact Or.inl (List.mem_of_getElem? (i := 201) (by decide +kernel))
  by_cases h8 : i = 8
  · subst h8; exact Or.inl (List.mem_of_getElem? (i := 209) (by decide +kernel))
  by_cases h9 : i = 9
  · subst h9; exact Or.inr (List.mem_of_getElem? (i := 233) (by decide +kernel))
  omega
theorem zx_ea : Cond.arrayOf zu_e (.object "ScheduleCheck$Token") ∈ flatC zu_P := List.mem_of_getElem? (i := 18) (by decide +kernel)
theorem zx_en : Cond.eq (.length zu_e) (.int 37) ∈ flatC zu_P := List.mem_of_getElem? (i := 19) (by decide +kernel)
theorem zx_ee : ∀ i, i < 37 → Cond.eq (.elem zu_e (.int (Int32.ofNat i))) (zu_t i) ∈ flatC zu_P := fun i hi => List.mem_of_getElem? ((by decide +kernel : ∀ i, i < 37 → (flatC zu_P)[([21, 22, 23, 24, 25, 26, 27, 28, 29, 30, 31, 32, 33, 34, 35, 36, 37, 38, 39, 40, 41, 42, 43, 44, 45, 46, 47, 48, 49, 50, 51, 52, 53, 54, 55, 56, 57] : List Nat).getD i 0]? = some (Cond.eq (.elem zu_e (.int (Int32.ofNat i))) (zu_t i))) i hi)
theorem zx_ma : Cond.arrayOf zu_m .int ∈ flatC zu_P := List.mem_of_getElem? (i := 114) (by decide +kernel)
theorem zx_mn : Cond.eq (.length zu_m) (.int 37) ∈ flatC zu_P := List.mem_of_getElem? (i := 115) (by decide +kernel)
theorem zx_me : ∀ i, i < 37 → Cond.eq (.elem zu_m (.int (Int32.ofNat i))) (.int (zd_mt.getD i 0)) ∈ flatC zu_P := fun i hi => List.mem_of_getElem? ((by decide +kernel : ∀ i, i < 37 → (flatC zu_P)[([116, 117, 118, 119, 120, 121, 122, 123, 124, 125, 126, 127, 128, 129, 130, 131, 132, 133, 134, 135, 136, 137, 138, 139, 140, 141, 142, 143, 144, 145, 146, 147, 148, 149, 150, 151, 152] : List Nat).getD i 0]? = some (Cond.eq (.elem zu_m (.int (Int32.ofNat i))) (.int (zd_mt.getD i 0)))) i hi)
theorem zx_na : Cond.arrayOf zu_n .int ∈ flatC zu_P := List.mem_of_getElem? (i := 211) (by decide +kernel)
theorem zx_nn : Cond.eq (.length zu_n) (.int 10) ∈ flatC zu_P := List.mem_of_getElem? (i := 212) (by decide +kernel)
theorem zx_ne : ∀ i, i < 10 → Cond.eq (.elem zu_n (.int (Int32.ofNat i))) (.int (zd_mk.getD i 0)) ∈ flatC zu_P := fun i hi => List.mem_of_getElem? ((by decide +kernel : ∀ i, i < 10 → (flatC zu_P)[([213, 214, 215, 216, 217, 218, 219, 220, 221, 222] : List Nat).getD i 0]? = some (Cond.eq (.elem zu_n (.int (Int32.ofNat i))) (.int (zd_mk.getD i 0)))) i hi)
