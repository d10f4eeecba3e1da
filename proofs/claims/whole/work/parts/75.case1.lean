/-! ===== the law's cases: questions of one row ===== -/
theorem in529 : vp_in 0 (ms_N ms_E0 529) := by rw [n529]; exact vi 0 1
section PC
variable {Ln i : Nat} {xs : Nat → Int32} {k : ms_St → Prop} {u : ms_St}
theorem p_case_9 (h : sp_Inv u) (hL : Ln ≤ 3072) (hi : i + 6 ≤ Ln) (hk : ∀ u', sp_Inv u' → k u') : wp_case_9 ms_E0 Ln xs 0 233 529 (nI i) k u := by
  obtain ⟨D, l, h0, hc⟩ := h
  have hV := h0.1
  have hM := h0.2.1
  have hR := h0.2.2.1
  have b1 := hV.1.2.1
  have b2 := hV.1.2.2.1
  have b3 := hV.1.2.2.2.1
  have hi1 : vp_in (nI i + 1) Ln := la_in hL hi (j := 1) (by omega)
  have hi2 : vp_in (nI i + 2) Ln := la_in hL hi (j := 2) (by omega)
  have hkq : ∀ {x : Int64} {v}, sp_KM (ms_sJ u 529 0 x) v → k v := fun q => hk _ (sp_Inv_q h0 (sp_KC_sJ sp_KC_refl) hc q)
  have hke : ∀ {v}, sp_KM u v → k v := fun q => hk _ (sp_Inv_q h0 sp_KC_refl hc q)
  unfold wp_case_9 wp_L_streetOf
  refine ⟨hi1, ?_⟩
  generalize xs (Int32.toNatClampNeg (nI i + 1)) = a
  rcases ix2 a (n := D 2) (by omega) with hb | ⟨h, hh, rfl⟩
  · exact c_streetOf_no hV hR hb ⟨rfl, hi1, m_streetOf_no hV hM hb (en_no rfl (by decide) (hke KM_00))⟩
  · exact c_streetOf hV hR hh ⟨in529, hi1, m_streetOf hV hM hh (en_ok rfl rfl (hkq KM_0))⟩
theorem p_case_10 (h : sp_Inv u) (hL : Ln ≤ 3072) (hi : i + 6 ≤ Ln) (hk : ∀ u', sp_Inv u' → k u') : wp_case_10 ms_E0 Ln xs 0 233 529 (nI i) k u := by
  obtain ⟨D, l, h0, hc⟩ := h
  have hV := h0.1
  have hM := h0.2.1
  have hR := h0.2.2.1
  have b1 := hV.1.2.1
  have b2 := hV.1.2.2.1
  have b3 := hV.1.2.2.2.1
  have hi1 : vp_in (nI i + 1) Ln := la_in hL hi (j := 1) (by omega)
  have hi2 : vp_in (nI i + 2) Ln := la_in hL hi (j := 2) (by omega)
  have hkq : ∀ {x : Int64} {v}, sp_KM (ms_sJ u 529 0 x) v → k v := fun q => hk _ (sp_Inv_q h0 (sp_KC_sJ sp_KC_refl) hc q)
  have hke : ∀ {v}, sp_KM u v → k v := fun q => hk _ (sp_Inv_q h0 sp_KC_refl hc q)
  unfold wp_case_10 wp_L_isOpen
  unfold wp_L_isOpen_15
  refine ⟨hi1, ?_⟩
  generalize xs (Int32.toNatClampNeg (nI i + 1)) = a
  rcases ix2 a (n := D 1) (by omega) with hb | ⟨h, hh, rfl⟩
  · exact c_isOpen_no hV hR hb ⟨rfl, hi1, m_isOpen_no hV hM hb (en_bno rfl (by decide) (hke KM_00))⟩
  · refine c_isOpen hV hR hh ⟨fun e => ⟨in529, hi1, m_isOpen hV hM hh (en_bok rfl ?_ (hkq KM_0))⟩, fun e => ⟨in529, hi1, m_isOpen hV hM hh (en_bok rfl ?_ (hkq KM_0))⟩⟩
    · rw [if_pos e]; rfl
    · rw [if_neg e]; rfl
theorem p_case_11 (h : sp_Inv u) (hL : Ln ≤ 3072) (hi : i + 6 ≤ Ln) (hk : ∀ u', sp_Inv u' → k u') : wp_case_11 ms_E0 Ln xs 0 233 529 (nI i) k u := by
  obtain ⟨D, l, h0, hc⟩ := h
  have hV := h0.1
  have hM := h0.2.1
  have hR := h0.2.2.1
  have b1 := hV.1.2.1
  have b2 := hV.1.2.2.1
  have b3 := hV.1.2.2.2.1
  have hi1 : vp_in (nI i + 1) Ln := la_in hL hi (j := 1) (by omega)
  have hi2 : vp_in (nI i + 2) Ln := la_in hL hi (j := 2) (by omega)
  have hkq : ∀ {x : Int64} {v}, sp_KM (ms_sJ u 529 0 x) v → k v := fun q => hk _ (sp_Inv_q h0 (sp_KC_sJ sp_KC_refl) hc q)
  have hke : ∀ {v}, sp_KM u v → k v := fun q => hk _ (sp_Inv_q h0 sp_KC_refl hc q)
  unfold wp_case_11 wp_L_hasDog
  unfold wp_L_hasDog_15
  refine ⟨hi1, ?_⟩
  generalize xs (Int32.toNatClampNeg (nI i + 1)) = a
  rcases ix2 a (n := D 2) (by omega) with hb | ⟨h, hh, rfl⟩
  · exact c_hasDog_no hV hR hb ⟨rfl, hi1, m_hasDog_no hV hM hb (en_bno rfl (by decide) (hke KM_00))⟩
  · refine c_hasDog hV hR hh ⟨fun e => ⟨in529, hi1, m_hasDog hV hM hh (en_bok rfl ?_ (hkq KM_0))⟩, fun e => ⟨in529, hi1, m_hasDog hV hM hh (en_bok rfl ?_ (hkq KM_0))⟩⟩
    · rw [if_pos e]; rfl
    · rw [if_neg e]; rfl
theorem p_case_14 (h : sp_Inv u) (hL : Ln ≤ 3072) (hi : i + 6 ≤ Ln) (hk : ∀ u', sp_Inv u' → k u') : wp_case_14 ms_E0 Ln xs 0 233 529 (nI i) k u := by
  obtain ⟨D, l, h0, hc⟩ := h
  have hV := h0.1
  have hM := h0.2.1
  have hR := h0.2.2.1
  have b1 := hV.1.2.1
  have b2 := hV.1.2.2.1
  have b3 := hV.1.2.2.2.1
  have hi1 : vp_in (nI i + 1) Ln := la_in hL hi (j := 1) (by omega)
  have hi2 : vp_in (nI i + 2) Ln := la_in hL hi (j := 2) (by omega)
  have hkq : ∀ {x : Int64} {v}, sp_KM (ms_sJ u 529 0 x) v → k v := fun q => hk _ (sp_Inv_q h0 (sp_KC_sJ sp_KC_refl) hc q)
  have hke : ∀ {v}, sp_KM u v → k v := fun q => hk _ (sp_Inv_q h0 sp_KC_refl hc q)
  unfold wp_case_14 wp_L_planLength
  refine ⟨hi1, ?_⟩
  generalize xs (Int32.toNatClampNeg (nI i + 1)) = a
  rcases ix2 a (n := D 3) (by omega) with hb | ⟨h, hh, rfl⟩
  · exact c_planLength_no hV hR hb ⟨rfl, hi1, m_planLength_no hV hM hb (en_no rfl (by decide) (hke KM_00))⟩
  · exact c_planLength hV hR hh ⟨in529, hi1, m_planLength hV hM hh (en_ok rfl rfl (hkq KM_0))⟩
theorem p_case_12 (h : sp_Inv u) (hL : Ln ≤ 3072) (hi : i + 6 ≤ Ln) (hk : ∀ u', sp_Inv u' → k u') : wp_case_12 ms_E0 Ln xs 0 233 529 (nI i) k u := by
  obtain ⟨D, l, h0, hc⟩ := h
  have hV := h0.1
  have hM := h0.2.1
  have hR := h0.2.2.1
  have b1 := hV.1.2.1
  have b2 := hV.1.2.2.1
  have b3 := hV.1.2.2.2.1
  have hi1 : vp_in (nI i + 1) Ln := la_in hL hi (j := 1) (by omega)
  have hi2 : vp_in (nI i + 2) Ln := la_in hL hi (j := 2) (by omega)
  have hkq : ∀ {x : Int64} {v}, sp_KM (ms_sJ u 529 0 x) v → k v := fun q => hk _ (sp_Inv_q h0 (sp_KC_sJ sp_KC_refl) hc q)
  have hke : ∀ {v}, sp_KM u v → k v := fun q => hk _ (sp_Inv_q h0 sp_KC_refl hc q)
  unfold wp_case_12 wp_L_isHome wp_L_isHome_16
  refine ⟨hi1, hi2, ?_⟩
  generalize xs (Int32.toNatClampNeg (nI i + 1)) = a
  generalize xs (Int32.toNatClampNeg (nI i + 2)) = b
  rcases ix2 a (n := D 2) (by omega) with hb | ⟨h, hh, rfl⟩
  · exact c_isHome_no hV hR hb (Or.inl ⟨rfl, hi1, hi2, m_isHome_no hV hM hb (en_bno rfl (by decide) (hke KM_00))⟩)
  · rcases ix2 b (n := 10000) (by omega) with hb | ⟨t, ht, rfl⟩
    · exact c_isHome_no2 hV hR hh hb (Or.inr ⟨rfl, hi1, hi2, m_isHome_no2 hV hM hh hb (en_bno rfl (by decide) (hke KM_00))⟩)
    · refine c_isHome hV hR hh ht ⟨fun e => ⟨in529, hi1, hi2, m_isHome hV hM hh ht (en_bok rfl ?_ (hkq KM_0))⟩, fun e => ⟨in529, hi1, hi2, m_isHome hV hM hh ht (en_bok rfl ?_ (hkq KM_0))⟩⟩
      · rw [if_pos e]; rfl
      · rw [if_neg e]; rfl
theorem p_case_15 (h : sp_Inv u) (hL : Ln ≤ 3072) (hi : i + 6 ≤ Ln) (hk : ∀ u', sp_Inv u' → k u') : wp_case_15 ms_E0 Ln xs 0 233 529 (nI i) k u := by
  obtain ⟨D, l, h0, hc⟩ := h
  have hV := h0.1
  have hM := h0.2.1
  have hR := h0.2.2.1
  have b1 := hV.1.2.1
  have b2 := hV.1.2.2.1
  have b3 := hV.1.2.2.2.1
  have hi1 : vp_in (nI i + 1) Ln := la_in hL hi (j := 1) (by omega)
  have hi2 : vp_in (nI i + 2) Ln := la_in hL hi (j := 2) (by omega)
  have hkq : ∀ {x : Int64} {v}, sp_KM (ms_sJ u 529 0 x) v → k v := fun q => hk _ (sp_Inv_q h0 (sp_KC_sJ sp_KC_refl) hc q)
  have hke : ∀ {v}, sp_KM u v → k v := fun q => hk _ (sp_Inv_q h0 sp_KC_refl hc q)
  unfold wp_case_15 wp_L_planned
  refine ⟨hi1, hi2, ?_⟩
  generalize xs (Int32.toNatClampNeg (nI i + 1)) = a
  generalize xs (Int32.toNatClampNeg (nI i + 2)) = b
  rcases ix2 a (n := D 3) (by omega) with hb | ⟨w, hw, rfl⟩
  · unfold wp_X10_planned
    refine c_ckP_no hV hR hb ⟨rfl, hi1, hi2, ?_⟩
    unfold wp_X11_planned
    exact m_noP_no hV (M_t hM (by decide)) rfl hb ⟨fun q => absurd q (by decide), fun _ => en_no rfl (by decide) (hke KM_00)⟩
  · have b4 := (hV.2.2.2.1 w hw).2.2.1
    rcases ix2 b (n := D (168 + 15 * w + 2)) (by omega) with hb | ⟨j, hj, rfl⟩
    · unfold wp_X10_planned
      refine c_ckP_no2 hV hR hw hb ⟨rfl, hi1, hi2, ?_⟩
      unfold wp_X11_planned
      exact m_noP_no2 hV (M_t hM (by decide)) rfl hw hb ⟨fun q => absurd q (by decide), fun _ => en_no rfl (by decide) (hke KM_00)⟩
    · exact c_planned hV hR hw hj ⟨in529, hi1, hi2, m_planned hV hM hw hj (en_ok rfl rfl (hkq KM_0))⟩
end PC
