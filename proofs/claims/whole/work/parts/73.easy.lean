/-! ===== checks and short questions ===== -/
theorem bad_cls {a : Int32} {n : Nat} (hn : n < 2 ^ 31) (hb : a < 0 ∨ nI n ≤ a) : ¬ (0 ≤ a ∧ a < nI n) := by
  rintro ⟨h1, h2⟩
  rcases hb with h | h
  · exact Int32.not_le.mpr h h1
  · exact Int32.not_lt.mpr h h2
theorem le_pred {a : Int32} {n : Nat} (hn : n < 2 ^ 30) : a ≤ nI n - 1 ↔ a < nI n := by
  have h1 : (1 : Int32) = nI 1 := rfl
  rw [Int32.le_iff_toInt_le, Int32.lt_iff_toInt_lt, h1, pk_sub_toInt hn (by omega), nI_toInt (by omega)]
  omega
section PE
variable {u : ms_St} {D : Nat → Nat} {l : List ms_Op} {a a2 : Int32} {post : Int32 → ms_St → Prop} {pv : ms_St → Prop} {px : String → ms_St → Prop}
theorem good01 {i n : Nat} (hn : n < 2 ^ 31) (h : i < n) : (0 : Int32) ≤ nI i ∧ nI i < nI n := ⟨nI_pos' (by omega), nI_lt h hn⟩
theorem ckH_ok {i n : Nat} (e : ms_I u 8 0 = nI n) (hn : n < 2 ^ 31) (h : i < n) (hp : pv u) : wp_X10_checkHouse ms_E0 u 0 (nI i) pv px := by
  unfold wp_X10_checkHouse
  simp only [at_0_3, at_2_4, q_X0_has, e, ite01]
  exact ⟨fun _ => hp, fun q => absurd (good01 hn h) q⟩
theorem ckH_no {n : Nat} (e : ms_I u 8 0 = nI n) (hn : n < 2 ^ 31) (h : a < 0 ∨ nI n ≤ a) (hp : px "java/lang/IndexOutOfBoundsException" u) : wp_X10_checkHouse ms_E0 u 0 a pv px := by
  unfold wp_X10_checkHouse
  simp only [at_0_3, at_2_4, q_X0_has, e, ite01]
  exact ⟨fun q => absurd q (bad_cls hn h), fun _ => hp⟩
theorem ckS_ok {i n : Nat} (e : ms_I u 3 0 = nI n) (hn : n < 2 ^ 31) (h : i < n) (hp : pv u) : wp_X10_checkStreet ms_E0 u 0 (nI i) pv px := by
  unfold wp_X10_checkStreet
  simp only [at_0_3, at_2_3, q_X5_has, e, ite01]
  exact ⟨fun _ => hp, fun q => absurd (good01 hn h) q⟩
theorem ckS_no {n : Nat} (e : ms_I u 3 0 = nI n) (hn : n < 2 ^ 31) (h : a < 0 ∨ nI n ≤ a) (hp : px "java/lang/IndexOutOfBoundsException" u) : wp_X10_checkStreet ms_E0 u 0 a pv px := by
  unfold wp_X10_checkStreet
  simp only [at_0_3, at_2_3, q_X5_has, e, ite01]
  exact ⟨fun q => absurd q (bad_cls hn h), fun _ => hp⟩
theorem ckW_ok {i n : Nat} (e : ms_I u 17 0 = nI n) (hn : n < 2 ^ 31) (h : i < n) (hp : pv u) : wp_X10_checkWalker ms_E0 u 0 (nI i) pv px := by
  unfold wp_X10_checkWalker
  simp only [at_0_3, at_2_5, q_X9_has, e, ite01]
  exact ⟨fun _ => hp, fun q => absurd (good01 hn h) q⟩
theorem ckW_no {n : Nat} (e : ms_I u 17 0 = nI n) (hn : n < 2 ^ 31) (h : a < 0 ∨ nI n ≤ a) (hp : px "java/lang/IndexOutOfBoundsException" u) : wp_X10_checkWalker ms_E0 u 0 a pv px := by
  unfold wp_X10_checkWalker
  simp only [at_0_3, at_2_5, q_X9_has, e, ite01]
  exact ⟨fun q => absurd q (bad_cls hn h), fun _ => hp⟩
theorem in_ok {i n : Nat} (hn : n < 2 ^ 30) (h : i < n) : (0 : Int32) ≤ nI i ∧ nI i ≤ nI n - 1 := ⟨nI_pos' (by omega), (le_pred hn).mpr (nI_lt h (by omega))⟩
theorem in_no {n : Nat} (hn : n < 2 ^ 30) (h : a < 0 ∨ nI n ≤ a) : ¬ ((0 : Int32) ≤ a ∧ a ≤ nI n - 1) := by
  rw [le_pred hn]
  exact bad_cls (by omega) h
theorem noH_ok {i : Nat} (hM : sp_M u 235 D) (hn : D 2 ≤ 16) (h : i < D 2) (h0 : ms_I u 233 0 = 0) (hp : post 0 u) : wp_X11_noHouse ms_E0 u 233 (nI i) post := by
  unfold wp_X11_noHouse wp_X11_noHouse_22
  simp only [at_233_8, show Int32.toNatClampNeg 2 = 2 from rfl, hM 2 (by omega), q_X11_in, ite01]
  exact ⟨vi 2 1613, fun _ => fails_ok h0 ⟨Or.inl rfl, hp⟩, fun q => absurd (in_ok (by omega) h) q⟩
theorem noH_no (hM : sp_M u 235 D) (hn : D 2 ≤ 16) (h : a < 0 ∨ nI (D 2) ≤ a) (h0 : ms_I u 233 0 = 0) (hp : post 1 (ms_sI u 233 0 1)) : wp_X11_noHouse ms_E0 u 233 a post := by
  unfold wp_X11_noHouse wp_X11_noHouse_22
  simp only [at_233_8, show Int32.toNatClampNeg 2 = 2 from rfl, hM 2 (by omega), q_X11_in, ite01]
  exact ⟨vi 2 1613, fun q => absurd q (in_no (by omega) h), fun _ => fails_no h0 (by decide) (by decide) ⟨Or.inr rfl, hp⟩⟩
theorem noW_ok {i : Nat} (hM : sp_M u 235 D) (hn : D 3 ≤ 16) (h : i < D 3) (h0 : ms_I u 233 0 = 0) (hp : post 0 u) : wp_X11_noWalker ms_E0 u 233 (nI i) post := by
  unfold wp_X11_noWalker wp_X11_noWalker_22
  simp only [at_233_8, show Int32.toNatClampNeg 3 = 3 from rfl, hM 3 (by omega), q_X11_in, ite01]
  exact ⟨vi 3 1613, fun _ => fails_ok h0 ⟨Or.inl rfl, hp⟩, fun q => absurd (in_ok (by omega) h) q⟩
theorem noW_no (hM : sp_M u 235 D) (hn : D 3 ≤ 16) (h : a < 0 ∨ nI (D 3) ≤ a) (h0 : ms_I u 233 0 = 0) (hp : post 1 (ms_sI u 233 0 1)) : wp_X11_noWalker ms_E0 u 233 a post := by
  unfold wp_X11_noWalker wp_X11_noWalker_22
  simp only [at_233_8, show Int32.toNatClampNeg 3 = 3 from rfl, hM 3 (by omega), q_X11_in, ite01]
  exact ⟨vi 3 1613, fun q => absurd q (in_no (by omega) h), fun _ => fails_no h0 (by decide) (by decide) ⟨Or.inr rfl, hp⟩⟩
theorem noS_ok {i : Nat} (hM : sp_M u 235 D) (hn : D 1 ≤ 16) (h : i < D 1) (h0 : ms_I u 233 0 = 0) (hp : post 0 u) : wp_X11_noStreet ms_E0 u 233 (nI i) post := by
  unfold wp_X11_noStreet wp_X11_noStreet_22
  simp only [at_233_8, show Int32.toNatClampNeg 1 = 1 from rfl, hM 1 (by omega), q_X11_in, ite01]
  exact ⟨vi 1 1613, fun _ => fails_ok h0 ⟨Or.inl rfl, hp⟩, fun q => absurd (in_ok (by omega) h) q⟩
theorem noS_no (hM : sp_M u 235 D) (hn : D 1 ≤ 16) (h : a < 0 ∨ nI (D 1) ≤ a) (h0 : ms_I u 233 0 = 0) (hp : post 1 (ms_sI u 233 0 1)) : wp_X11_noStreet ms_E0 u 233 a post := by
  unfold wp_X11_noStreet wp_X11_noStreet_22
  simp only [at_233_8, show Int32.toNatClampNeg 1 = 1 from rfl, hM 1 (by omega), q_X11_in, ite01]
  exact ⟨vi 1 1613, fun q => absurd q (in_no (by omega) h), fun _ => fails_no h0 (by decide) (by decide) ⟨Or.inr rfl, hp⟩⟩
end PE
/-- the law's ends -/
def en_i (k : ms_St → Prop) (r r2 : Int32) (u : ms_St) : Prop := wp_X11_thrown ms_E0 u 233 (fun t v => (t = r → (r = 0 → vp_in 0 1 ∧ (((lg_cmp (ms_J v 529 (Int32.toNatClampNeg 0)) (Int32.toInt64 r2)) = 0 → k v) ∧ (¬ (lg_cmp (ms_J v 529 (Int32.toNatClampNeg 0)) (Int32.toInt64 r2)) = 0 → False))) ∧ (¬ r = 0 → k v)) ∧ (¬ t = r → False))
def en_b (k : ms_St → Prop) (r r2 : Int32) (u : ms_St) : Prop := wp_X11_thrown ms_E0 u 233 (fun t v => (t = r → (r = 0 → vp_in 0 1 ∧ ((r2 = 0 → ((lg_cmp (ms_J v 529 (Int32.toNatClampNeg 0)) 0) = 0 → k v) ∧ (¬ (lg_cmp (ms_J v 529 (Int32.toNatClampNeg 0)) 0) = 0 → False)) ∧ (¬ r2 = 0 → ((lg_cmp (ms_J v 529 (Int32.toNatClampNeg 0)) 1) = 0 → k v) ∧ (¬ (lg_cmp (ms_J v 529 (Int32.toNatClampNeg 0)) 1) = 0 → False)))) ∧ (¬ r = 0 → k v)) ∧ (¬ t = r → False))
section PN
variable {u : ms_St} {k : ms_St → Prop} {r r2 : Int32}
theorem en_ok (h0 : ms_I u 233 0 = 0) (hJ : ms_J u 529 0 = Int32.toInt64 r2) (hk : k u) : en_i k 0 r2 u := by
  unfold en_i wp_X11_thrown
  rw [h0]
  refine ⟨fun _ => ⟨fun _ => ⟨vi 0 1, fun _ => hk, fun q => q ?_⟩, fun q => absurd rfl q⟩, fun q => absurd rfl q⟩
  rw [lg_cmp_0]
  exact hJ
theorem en_no (h0 : ms_I u 233 0 = r) (hr : ¬ r = 0) (hk : k u) : en_i k r r2 u := by
  unfold en_i wp_X11_thrown
  rw [h0]
  exact ⟨fun _ => ⟨fun q => absurd q hr, fun _ => hk⟩, fun q => absurd rfl q⟩
theorem en_bok (h0 : ms_I u 233 0 = 0) (hJ : ms_J u 529 0 = if r2 = 0 then 0 else 1) (hk : k u) : en_b k 0 r2 u := by
  unfold en_b wp_X11_thrown
  rw [h0]
  refine ⟨fun _ => ⟨fun _ => ⟨vi 0 1, fun e => ⟨fun _ => hk, fun q => q ?_⟩, fun e => ⟨fun _ => hk, fun q => q ?_⟩⟩, fun q => absurd rfl q⟩, fun q => absurd rfl q⟩
  · rw [lg_cmp_0]
    rw [if_pos e] at hJ
    exact hJ
  · rw [lg_cmp_0]
    rw [if_neg e] at hJ
    exact hJ
theorem en_bno (h0 : ms_I u 233 0 = r) (hr : ¬ r = 0) (hk : k u) : en_b k r r2 u := by
  unfold en_b wp_X11_thrown
  rw [h0]
  exact ⟨fun _ => ⟨fun q => absurd q hr, fun _ => hk⟩, fun q => absurd rfl q⟩
end PN
theorem n529 : ms_N ms_E0 529 = 1 := by decide +kernel
/-- the numbers of the script that a call reads -/
theorem la_in {Ln i : Nat} (hL : Ln ≤ 3072) (h : i + 6 ≤ Ln) {j : Nat} (hj : j < 6) : vp_in (nI i + nI j) Ln := by
  rw [nI_add]
  exact vp_in_nI (by omega) (by omega)
/-! counts -/
theorem p_case_2 {Ln : Nat} {xs : Nat → Int32} {x4 : Int32} {k : ms_St → Prop} {u : ms_St} (h : sp_Inv u) (hk : ∀ u', sp_Inv u' → k u') : wp_case_2 ms_E0 Ln xs 0 233 529 x4 k u := by
  obtain ⟨D, l, h0, hc⟩ := h
  unfold wp_case_2 wp_X10_errorOffset wp_X11_errorOffset
  have e : ms_I (ms_sI u 233 0 0) 233 7 = ms_I u 0 2 := by rw [h0.2.2.2.2.2]; rfl
  dsimp only
  rw [e]
  exact ⟨fun _ => hk _ (sp_Inv_q h0 sp_KC_refl hc (sp_KM_t sp_KM_refl (by decide))), fun q => q rfl⟩
theorem p_case_3 {Ln : Nat} {xs : Nat → Int32} {x4 : Int32} {k : ms_St → Prop} {u : ms_St} (h : sp_Inv u) (hk : ∀ u', sp_Inv u' → k u') : wp_case_3 ms_E0 Ln xs 0 233 529 x4 k u := by
  obtain ⟨D, l, h0, hc⟩ := h
  unfold wp_case_3 wp_X10_crossingCount wp_X11_crossingCount
  have hR : ms_I u 2 0 = nI (D 0) := h0.2.2.1.1.1
  have hM : ms_I u 235 0 = nI (D 0) := h0.2.1 0 (by omega)
  simp only [at_0_3, at_233_8]
  refine ⟨vi 0 1613, fun _ => hk _ (sp_Inv_q h0 sp_KC_refl hc (sp_KM_t sp_KM_refl (by decide))), fun q => q ?_⟩
  rw [hR]
  exact hM.symm
theorem p_case_4 {Ln : Nat} {xs : Nat → Int32} {x4 : Int32} {k : ms_St → Prop} {u : ms_St} (h : sp_Inv u) (hk : ∀ u', sp_Inv u' → k u') : wp_case_4 ms_E0 Ln xs 0 233 529 x4 k u := by
  obtain ⟨D, l, h0, hc⟩ := h
  unfold wp_case_4 wp_X10_streetCount wp_X11_streetCount
  have hR : ms_I u 3 0 = nI (D 1) := h0.2.2.1.1.2.2.2.1
  have hM : ms_I u 235 1 = nI (D 1) := h0.2.1 1 (by omega)
  simp only [at_0_3, at_2_3, at_233_8]
  refine ⟨vi 1 1613, fun _ => hk _ (sp_Inv_q h0 sp_KC_refl hc (sp_KM_t sp_KM_refl (by decide))), fun q => q ?_⟩
  rw [hR]
  exact hM.symm
theorem p_case_5 {Ln : Nat} {xs : Nat → Int32} {x4 : Int32} {k : ms_St → Prop} {u : ms_St} (h : sp_Inv u) (hk : ∀ u', sp_Inv u' → k u') : wp_case_5 ms_E0 Ln xs 0 233 529 x4 k u := by
  obtain ⟨D, l, h0, hc⟩ := h
  unfold wp_case_5 wp_X10_houseCount wp_X11_houseCount
  have hR : ms_I u 8 0 = nI (D 2) := h0.2.2.1.1.2.2.2.2.1
  have hM : ms_I u 235 2 = nI (D 2) := h0.2.1 2 (by omega)
  simp only [at_0_3, at_2_4, at_233_8]
  refine ⟨vi 2 1613, fun _ => hk _ (sp_Inv_q h0 sp_KC_refl hc (sp_KM_t sp_KM_refl (by decide))), fun q => q ?_⟩
  rw [hR]
  exact hM.symm
theorem p_case_6 {Ln : Nat} {xs : Nat → Int32} {x4 : Int32} {k : ms_St → Prop} {u : ms_St} (h : sp_Inv u) (hk : ∀ u', sp_Inv u' → k u') : wp_case_6 ms_E0 Ln xs 0 233 529 x4 k u := by
  obtain ⟨D, l, h0, hc⟩ := h
  unfold wp_case_6 wp_X10_walkerCount wp_X11_walkerCount
  have hR : ms_I u 17 0 = nI (D 3) := h0.2.2.1.1.2.2.2.2.2
  have hM : ms_I u 235 3 = nI (D 3) := h0.2.1 3 (by omega)
  simp only [at_0_3, at_2_5, at_233_8]
  refine ⟨vi 3 1613, fun _ => hk _ (sp_Inv_q h0 sp_KC_refl hc (sp_KM_t sp_KM_refl (by decide))), fun q => q ?_⟩
  rw [hR]
  exact hM.symm
