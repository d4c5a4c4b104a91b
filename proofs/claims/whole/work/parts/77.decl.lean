/-! declarations -/
section YDA
variable {F n m p q t V L T : Nat} {v : Nat → Nat}
/-- a byte's value -/
def yb8 (x : Int32) : Prop := x.toInt8.toInt32 = x
theorem yb8_n : ∀ k, k ≤ 127 → yb8 (nI k) ∧ yb8 (-nI k) := by
  have : ∀ k, k < 128 → (nI k).toInt8.toInt32 = nI k ∧ (-nI k).toInt8.toInt32 = -nI k := by decide +kernel
  exact fun k hk => this k (by omega)
def yDc (F : Nat) (v : Nat → Nat) (n m p q V L U i : Nat) (σ τ : zs_S) : Prop := (yB v n m ∧ yPP p ∧ yQQ q ∧ 1700 < F) ∧ yP v n m p i σ ∧ yM F v n m q i τ ∧ (zs_i σ p 0 = nI V ∧ zs_i σ p 1 = nI L ∧ zs_i σ p 2 = nI 0 ∧ zs_i σ p 3 = nI 0 ∧ zs_i τ q 5 = nI 0 ∧ zs_i τ q 6 = nI 0 ∧ zs_i τ q 12 = nI 0) ∧ (zs_i σ 7 9 = nI 0 ∧ zs_i τ 1 14 = nI 0 ∧ zs_i σ (p + 55) 3 = nI 0 ∧ zs_i σ 7 2 = nI (V + L)) ∧ (∃ C K kv kl, yNS σ τ q V L C K kv kl) ∧ (∀ x, x < U → zs_i σ (p + 1) x = zs_i τ (q + 8) x ∧ yb8 (zs_i τ (q + 8) x))
/-- the searches ahead of a declaration -/
theorem yy_lookd {i : Nat} {C K kv kl : Nat → Nat} {σ τ : zs_S} (hF : 1600 < F) (hB : yB v n m) (hq : yQQ q) (ht : yx_TP v n τ) (hP : yP v n m p i σ) (hc : yx_c v n i = 1002) (hS : yNS σ τ q V L C K kv kl) (hk : zs_i σ 7 2 = nI (V + L)) : ∃ r r1 r2, zf_Parser_find F 0 σ = some (r, σ) ∧ zf_MN_find F (q + 1) 2 (nI (yx_ps v n i)) (nI (yln v n i)) τ = some (r1, τ) ∧ zf_MN_find F (q + 4) 2 (nI (yx_ps v n i)) (nI (yln v n i)) τ = some (r2, τ) ∧ ((¬ r < 0 ∧ (0 ≤ r1 ∨ (¬ 0 ≤ r1 ∧ ¬ r2 < 0))) ∨ (r < 0 ∧ ¬ 0 ≤ r1 ∧ r2 < 0 ∧ ∀ y, y < V + L → K y ≠ yky v n i)) := by
  obtain ⟨r1, r2, e1, e2, hs⟩ := yy_looks hF hB hq ht hP hc hS
  obtain ⟨a1, a2, a3, a4, a5, a6, a7, a8, a9, a10⟩ := hS
  have hf : zf_Parser_find F 0 σ = zf_Parser_find_7 F F (nI 0) (nI (V + L) - 1) σ := by
    unfold zf_Parser_find
    rw [hk, yq_v]
    rfl
  rcases yy_cf (F := F) (a := 0) (K := K) hB hP hc 20 (V + L) F (by omega) (by omega) (by omega) (by omega) (fun y _ hy => ⟨(a7 y hy).1, (a7 y hy).2.1⟩) with ⟨y, -, y2, y3, y4, y5⟩ | ⟨y1, y2⟩
  · have hcy : C y < 12 := by
      rcases (a7 y y2).2.2.2 with ⟨h1, -⟩ | ⟨-, h1, -⟩ <;> omega
    refine ⟨_, r1, r2, hf.trans y4, e1, e2, Or.inl ⟨by rw [(a7 y y2).2.2.1]; exact nI_pos (by omega), ?_⟩⟩
    rcases hs with ⟨z, x, z1, z2, z3, z4, z5, z6⟩ | ⟨z, x, z1, z2, z3, z4, z5, z6⟩ | ⟨z1, -, -⟩
    · exact Or.inl (by rw [z5]; exact nI_pos' (by omega))
    · exact Or.inr ⟨by rw [z5]; decide, by rw [z6]; exact nI_pos (by omega)⟩
    · exact absurd y3 (z1 y y2)
  · refine ⟨_, r1, r2, hf.trans y2, e1, e2, Or.inr ⟨by decide, ?_, ?_, fun y hy => y1 y (by omega) hy⟩⟩
    · rcases hs with ⟨z, x, z1, z2, -⟩ | ⟨z, x, z1, z2, z3, z4, z5, z6⟩ | ⟨-, z2, z3⟩
      · exact absurd z2 (y1 z (by omega) z1)
      · rw [z5]; decide
      · rw [z2]; decide
    · rcases hs with ⟨z, x, z1, z2, -⟩ | ⟨z, x, z1, z2, z3, z4, z5, z6⟩ | ⟨-, z2, z3⟩
      · exact absurd z2 (y1 z (by omega) z1)
      · exact absurd z2 (y1 z (by omega) z1)
      · rw [z3]; decide
/-- what the class's declare leaves -/
def ydk (v : Nat → Nat) (n i B : Nat) (cell : Int32) (σ : zs_S) : zs_S := zs_wi (zs_wi (zs_wl σ 8 B (lN (yky v n i))) 9 B cell) 7 2 (nI (B + 1))
theorem yy_dk {i B : Nat} {cell frm : Int32} {σ : zs_S} (hB : yB v n m) (hP : yP v n m p i σ) (hc : yx_c v n i = 1002) (hk : zs_i σ 7 2 = nI B) (hB15 : B < 15) {r : Int32} (hf : zf_Parser_find F frm σ = some (r, σ)) (hr : r < 0) : zf_Parser_declare F 1 frm cell σ = some (1, yadv v n i (ydk v n i B cell σ)) ∧ yP v n m p (i + 1) (yadv v n i (ydk v n i B cell σ)) := by
  have hm := yB_m hB
  have ht := yB_t hB i
  have hlt := yB_lt hB hP.2.2.2.2.2.1 (by omega) (by omega)
  obtain ⟨b1, b2, b3, b4, b5, b6, b7⟩ := hP
  obtain ⟨t1, t2, t3, -⟩ := yTN_i hB hc
  have hl : zs_l σ 6 i = lN (yky v n i) := by
    have := (b7 i (by omega)).2.2 (Or.inl hc)
    rw [t2] at this
    exact this
  have hP2 : yP v n m p i (ydk v n i B cell σ) := by
    unfold ydk
    exact ⟨b1, b2, by simp (disch := omega) only [yt_in, yt_ie, yt_ir, yt_il, yt_ri, yt_rl, yt_rn, yt_re, yt_li, yt_lr, yt_ln, yt_le]; exact b3, by simp (disch := omega) only [yt_in, yt_ie, yt_ir, yt_il, yt_ri, yt_rl, yt_rn, yt_re, yt_li, yt_lr, yt_ln, yt_le]; exact b4, b5, b6, yx_rowsF b7 (fun k => rfl) (fun k => by simp (disch := omega) only [yt_in, yt_ie, yt_ir, yt_il, yt_ri, yt_rl, yt_rn, yt_re, yt_li, yt_lr, yt_ln, yt_le]) (fun k => by simp (disch := omega) only [yt_in, yt_ie, yt_ir, yt_il, yt_ri, yt_rl, yt_rn, yt_re, yt_li, yt_lr, yt_ln, yt_le])⟩
  obtain ⟨e1, e2⟩ := yy_adv (F := F) hB hP2 hlt
  refine ⟨?_, e2⟩
  have h72 : zs_i (zs_wl σ 8 B (lN (yky v n i))) 7 2 = nI B := hk
  have h73 : zs_i (zs_wi (zs_wl σ 8 B (lN (yky v n i))) 9 B cell) 7 2 = nI B := by rw [yt_in _ _ (by omega)]; exact hk
  unfold zf_Parser_declare
  rw [b5, hc, zq_qr (by decide), yn_12 (by decide), yq_g, if_pos rfl, if_neg y01, hf, yq_c, if_pos hr, b1, zq_qr (by decide), ys_k3, yq_g, ys_r2, zq_qr (by decide), ys_k6, yq_g, ys_z6, b4, yn_b (show i < 1601 by omega) (by decide), yq_g, hk, yn_b hB15 (by decide), yq_g, nI_clamp (by omega), nI_clamp (by omega), hl, yq_v, h72, yn_b hB15 (by decide), yq_g, nI_clamp (by omega), yq_v, h73, nI_1, yq_v]
  show zq_d (zf_Parser_advance F (ydk v n i B cell σ)) _ = _
  rw [e1, yq_s]
theorem yy_dkn {i : Nat} {cell frm x1 : Int32} {σ : zs_S} (hB : yB v n m) (hP : yP v n m p i σ) (h : yx_c v n i ≠ 1002 ∨ x1 = 0 ∨ (∃ r, zf_Parser_find F frm σ = some (r, σ) ∧ ¬ r < 0)) : zf_Parser_declare F x1 frm cell σ = some (0, yfl v n i σ) := by
  have ht := yB_t hB i
  have e1 := (yy_fail (F := F) hB hP).1
  have d22 : zf_Parser_declare_22 F σ = some (0, yfl v n i σ) := by
    unfold zf_Parser_declare_22
    rw [e1, yq_s]
  unfold zf_Parser_declare
  rw [hP.2.2.2.2.1, zq_qr (by omega), yn_12 (by omega), yq_g]
  by_cases hc : yx_c v n i = 1002
  · rw [if_pos hc]
    by_cases h0 : x1 = 0
    · rw [if_pos h0, d22]
    · rw [if_neg h0]
      rcases h with h | h | ⟨r, h1, h2⟩
      · exact absurd hc h
      · exact absurd h h0
      · rw [h1, yq_c, if_neg h2, d22]
  · rw [if_neg hc, d22]
/-- a changed place -/
def yup (f : Nat → Nat) (a b x : Nat) : Nat := if x = a then b else f x
theorem yup_e (f : Nat → Nat) (a b : Nat) : yup f a b a = b := if_pos rfl
theorem yup_n {f : Nat → Nat} {a b x : Nat} (h : x ≠ a) : yup f a b x = f x := if_neg h
/-- the names after a declaration -/
theorem yNS_v {i : Nat} {C K kv kl : Nat → Nat} {σ τ σ' : zs_S} (hB : yB v n m) (hq : yQQ q) (ht : yx_TP v n τ) (hc : yx_c v n i = 1002) (hV : V < 8) (hS : yNS σ τ q V L C K kv kl) (hK : ∀ y, y < V + L → K y ≠ yky v n i) (h8 : zs_l σ' 8 (V + L) = lN (yky v n i) ∧ ∀ k, k ≠ V + L → zs_l σ' 8 k = zs_l σ 8 k) (h9 : zs_i σ' 9 (V + L) = nI V ∧ ∀ k, k ≠ V + L → zs_i σ' 9 k = zs_i σ 9 k) : yNS σ' (yad τ (q + 1) V (yln v n i) (yx_ps v n i)) q (V + 1) L (yup C (V + L) V) (yup K (V + L) (yky v n i)) (yup kv V (yky v n i)) kl := by
  obtain ⟨a1, a2, a3, a4, a5, a6, a7, a8, a9, a10⟩ := hS
  obtain ⟨t1, t2, t3, -⟩ := yTN_i hB hc
  have hq2 := yQQ_b hq
  refine ⟨by omega, a2, yad_m, by rw [yad_i _ _ (by omega)]; exact a4, fun x hx => ?_, fun x hx => yRK_F (a6 x hx) (fun k => yad_i _ _ (by omega)) (fun k => yad_i _ _ (by omega)), fun y hy => ?_, fun x hx => ?_, fun x hx => ?_, fun y z hy hz e => ?_⟩
  · by_cases hxv : x = V
    · rw [hxv, yup_e]
      exact yad_n (yv_nv hq) ht t1
    · rw [yup_n hxv]
      exact yad_k (yv_nv hq) ht t1 (by omega) (a5 x (by omega))
  · by_cases hyv : y = V + L
    · rw [hyv, yup_e, yup_e, yup_e]
      exact ⟨h8.1, t3, h9.1, Or.inl ⟨by omega, rfl⟩⟩
    · rw [yup_n hyv, yup_n hyv, h8.2 y hyv, h9.2 y hyv]
      obtain ⟨b1, b2, b3, b4⟩ := a7 y (by omega)
      refine ⟨b1, b2, b3, ?_⟩
      rcases b4 with ⟨b4, b5⟩ | b4
      · exact Or.inl ⟨by omega, by rw [yup_n (by omega)]; exact b5⟩
      · exact Or.inr b4
  · by_cases hxv : x = V
    · exact ⟨V + L, by omega, by rw [yup_e, hxv]⟩
    · obtain ⟨y, y1, y2⟩ := a8 x (by omega)
      exact ⟨y, by omega, by rw [yup_n (by omega)]; exact y2⟩
  · obtain ⟨y, y1, y2⟩ := a9 x hx
    exact ⟨y, by omega, by rw [yup_n (by omega)]; exact y2⟩
  · by_cases hy1 : y = V + L
    · by_cases hz1 : z = V + L
      · omega
      · rw [hy1, yup_e, yup_n hz1] at e
        exact absurd e.symm (hK z (by omega))
    · by_cases hz1 : z = V + L
      · rw [hz1, yup_e, yup_n hy1] at e
        exact absurd e (hK y (by omega))
      · rw [yup_n hy1, yup_n hz1] at e
        exact a10 y z (by omega) (by omega) e
theorem yNS_l {i : Nat} {C K kv kl : Nat → Nat} {σ τ σ' : zs_S} (hB : yB v n m) (hq : yQQ q) (ht : yx_TP v n τ) (hc : yx_c v n i = 1002) (hL : L < 4) (hS : yNS σ τ q V L C K kv kl) (hK : ∀ y, y < V + L → K y ≠ yky v n i) (h8 : zs_l σ' 8 (V + L) = lN (yky v n i) ∧ ∀ k, k ≠ V + L → zs_l σ' 8 k = zs_l σ 8 k) (h9 : zs_i σ' 9 (V + L) = nI (8 + L) ∧ ∀ k, k ≠ V + L → zs_i σ' 9 k = zs_i σ 9 k) : yNS σ' (yad τ (q + 4) L (yln v n i) (yx_ps v n i)) q V (L + 1) (yup C (V + L) (8 + L)) (yup K (V + L) (yky v n i)) kv (yup kl L (yky v n i)) := by
  obtain ⟨a1, a2, a3, a4, a5, a6, a7, a8, a9, a10⟩ := hS
  obtain ⟨t1, t2, t3, -⟩ := yTN_i hB hc
  have hq2 := yQQ_b hq
  refine ⟨a1, by omega, by rw [yad_i _ _ (by omega)]; exact a3, yad_m, fun x hx => yRK_F (a5 x hx) (fun k => yad_i _ _ (by omega)) (fun k => yad_i _ _ (by omega)), fun x hx => ?_, fun y hy => ?_, fun x hx => ?_, fun x hx => ?_, fun y z hy hz e => ?_⟩
  · by_cases hxv : x = L
    · rw [hxv, yup_e]
      exact yad_n (yv_nl hq) ht t1
    · rw [yup_n hxv]
      exact yad_k (yv_nl hq) ht t1 (by omega) (a6 x (by omega))
  · by_cases hyv : y = V + L
    · rw [hyv, yup_e, yup_e]
      exact ⟨h8.1, t3, h9.1, Or.inr ⟨by omega, by omega, by rw [show 8 + L - 8 = L by omega, yup_e]⟩⟩
    · rw [yup_n hyv, yup_n hyv, h8.2 y hyv, h9.2 y hyv]
      obtain ⟨b1, b2, b3, b4⟩ := a7 y (by omega)
      refine ⟨b1, b2, b3, ?_⟩
      rcases b4 with b4 | ⟨b4, b5, b6⟩
      · exact Or.inl b4
      · exact Or.inr ⟨b4, by omega, by rw [yup_n (by omega)]; exact b6⟩
  · obtain ⟨y, y1, y2⟩ := a8 x hx
    exact ⟨y, by omega, by rw [yup_n (by omega)]; exact y2⟩
  · by_cases hxv : x = L
    · exact ⟨V + L, by omega, by rw [yup_e, hxv]⟩
    · obtain ⟨y, y1, y2⟩ := a9 x (by omega)
      exact ⟨y, by omega, by rw [yup_n (by omega)]; exact y2⟩
  · by_cases hy1 : y = V + L
    · by_cases hz1 : z = V + L
      · omega
      · rw [hy1, yup_e, yup_n hz1] at e
        exact absurd e.symm (hK z (by omega))
    · by_cases hz1 : z = V + L
      · rw [hz1, yup_e, yup_n hy1] at e
        exact absurd e (hK y (by omega))
      · rw [yup_n hy1, yup_n hz1] at e
        exact a10 y z (by omega) (by omega) e
/-- one token on, at the declarations -/
theorem yDc_F {U i i' : Nat} {σ τ σ' τ' : zs_S} (h : yDc F v n m p q V L U i σ τ) (hP : yP v n m p i' σ') (hM : yM F v n m q i' τ') (hi : ∀ o k, ¬ (o = 7 ∧ 5 ≤ k ∧ k ≤ 8) → zs_i σ' o k = zs_i σ o k) (hl : ∀ k, zs_l σ' 8 k = zs_l σ 8 k) (ht : ∀ o k, ¬ (o = 1 ∧ 6 ≤ k ∧ k ≤ 11) → zs_i τ' o k = zs_i τ o k) : yDc F v n m p q V L U i' σ' τ' := by
  obtain ⟨⟨h1, hp, hq, hF⟩, -, -, ⟨s1, s2, s3, s4, s5, s6, s7⟩, ⟨g1, g2, g3, g4⟩, ⟨C, K, kv, kl, hS⟩, hv⟩ := h
  have hp2 := yPP_b hp
  have hq2 := yQQ_b hq
  exact ⟨⟨h1, hp, hq, hF⟩, hP, hM, ⟨(hi _ _ (by omega)).trans s1, (hi _ _ (by omega)).trans s2, (hi _ _ (by omega)).trans s3, (hi _ _ (by omega)).trans s4, (ht _ _ (by omega)).trans s5, (ht _ _ (by omega)).trans s6, (ht _ _ (by omega)).trans s7⟩, ⟨(hi _ _ (by omega)).trans g1, (ht _ _ (by omega)).trans g2, (hi _ _ (by omega)).trans g3, (hi _ _ (by omega)).trans g4⟩, ⟨C, K, kv, kl, yNS_F hS (fun k _ => hl k) (fun k _ => hi _ _ (by omega)) (fun o k x y => ht _ _ (by omega))⟩, fun x hx => ⟨by rw [hi _ _ (by omega), ht _ _ (by omega)]; exact (hv x hx).1, by rw [ht _ _ (by omega)]; exact (hv x hx).2⟩⟩
theorem yDc_st {U i : Nat} {σ τ : zs_S} (h : yDc F v n m p q V L U i σ τ) (hi : i < m) : ∃ τ1, zf_Parser_advance F σ = some (yadv v n i σ) ∧ zf_M_step F τ = some τ1 ∧ yDc F v n m p q V L U (i + 1) (yadv v n i σ) τ1 ∧ ygC p σ (yadv v n i σ) ∧ ygM q τ τ1 ∧ ym_L τ τ1 := by
  have hp2 := yPP_b h.1.2.1
  obtain ⟨k1, k2⟩ := yy_adv (F := F) h.1.1 h.2.1 hi
  obtain ⟨τ1, k3, k4, k5⟩ := yw_e (ym_step h.1.1 h.2.2.1 hi)
  refine ⟨τ1, k1, k3, yDc_F h k2 k4 (fun o k x => ?_) (fun k => rfl) (fun o k x => k5.1 o k (by omega)), ?_, ygM_L k5, k5⟩
  · unfold yadv
    rw [yt_ir, yt_in _ _ (by omega)]
  · unfold yadv
    exact ⟨fun o k x y => ⟨by rw [yt_ir, yt_in _ _ (by omega)], by rw [yt_rn _ _ (by omega), yt_ri], rfl⟩, rfl, rfl⟩
end YDA
