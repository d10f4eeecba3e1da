/-! ===== the law's cases 27 to 32 ===== -/
section CJ
variable {Ln i : Nat} {xs : Nat → Int32} {k : ms_St → Prop} {u : ms_St}
theorem p_case_27 (h : sp_Inv u) (hL : Ln ≤ 3072) (hi : i + 6 ≤ Ln) (hk : ∀ u', sp_Inv u' → k u') : wp_case_27 ms_E0 Ln xs 0 233 529 (nI i) k u := by
  obtain ⟨D, l, h0, hc⟩ := h
  have hV := h0.1
  have hM := h0.2.1
  have hR := h0.2.2.1
  have b2 := hV.1.2.2.1
  have b3 := hV.1.2.2.2.1
  obtain ⟨n, q, P, Q, hPa⟩ := h0.2.2.2.1
  obtain ⟨hPC, hPM, hPV⟩ := sp_Pa_split hPa
  have hn := hPC.1
  have hi1 : vp_in (nI i + 1) Ln := la_in hL hi (j := 1) (by omega)
  have hi2 : vp_in (nI i + 2) Ln := la_in hL hi (j := 2) (by omega)
  have hke : ∀ {v}, sp_KM u v → k v := fun q => hk _ (sp_Inv_q h0 sp_KC_refl hc q)
  unfold wp_case_27 wp_L_plan
  refine ⟨hi1, hi2, ?_⟩
  generalize xs (Int32.toNatClampNeg (nI i + 1)) = a
  generalize xs (Int32.toNatClampNeg (nI i + 2)) = b
  rcases ix2 a (n := D 3) (by omega) with hb | ⟨w, hw, rfl⟩
  · unfold wp_X10_plan
    exact ckW_no hR.1.2.2.2.2.2 (by omega) hb (Or.inl ⟨rfl, hi1, hi2, m_plan_no hV hM hb (en_no rfl (by decide) (hke KM_00))⟩)
  · rcases ix2 b (n := D 2) (by omega) with hb | ⟨h, hh, rfl⟩
    · unfold wp_X10_plan
      exact ckW_ok hR.1.2.2.2.2.2 (by omega) hw (ckH_no hR.1.2.2.2.2.1 (by omega) hb (Or.inl ⟨rfl, hi1, hi2, m_plan_no2 hV hM hw hb (en_no rfl (by decide) (hke KM_00))⟩))
    · by_cases hl : D (168 + 15 * w + 2) < 12
      · refine c_plan hV hR hPC hw hh hl (fun u1 h1 => ⟨in529, hi1, hi2, m_plan hV (M_C h1.1 hM) hn (PM_C h1.1 hn hPM) hw hh hl (fun u2 h2 => en_ok h2.2.2.2 ?_ (hk _ (ch_fin h0 (pl_V hV hw hh hl) hn hPV h1 h2)))⟩)
        rw [h2.1.2 0]; rfl
      · have hl' : D (168 + 15 * w + 2) = 12 := by have := (hV.2.2.2.1 w hw).2.2.1; omega
        exact c_plan_full hV hR hw hh hl' (Or.inr ⟨rfl, hi1, hi2, m_plan_full hV hM hw hh hl' (en_no rfl (by decide) (hke KM_00))⟩)
theorem p_case_28 (h : sp_Inv u) (hL : Ln ≤ 3072) (hi : i + 6 ≤ Ln) (hk : ∀ u', sp_Inv u' → k u') : wp_case_28 ms_E0 Ln xs 0 233 529 (nI i) k u := by
  obtain ⟨D, l, h0, hc⟩ := h
  have hV := h0.1
  have hM := h0.2.1
  have hR := h0.2.2.1
  have b3 := hV.1.2.2.2.1
  obtain ⟨n, q, P, Q, hPa⟩ := h0.2.2.2.1
  obtain ⟨hPC, hPM, hPV⟩ := sp_Pa_split hPa
  have hn := hPC.1
  have hi1 : vp_in (nI i + 1) Ln := la_in hL hi (j := 1) (by omega)
  have hke : ∀ {v}, sp_KM u v → k v := fun q => hk _ (sp_Inv_q h0 sp_KC_refl hc q)
  unfold wp_case_28 wp_L_unplan
  refine ⟨hi1, ?_⟩
  generalize xs (Int32.toNatClampNeg (nI i + 1)) = a
  rcases ix2 a (n := D 3) (by omega) with hb | ⟨w, hw, rfl⟩
  · unfold wp_X10_unplan
    exact ckW_no hR.1.2.2.2.2.2 (by omega) hb (Or.inl ⟨rfl, hi1, m_unplan_no hV hM hb (en_no rfl (by decide) (hke KM_00))⟩)
  · by_cases hl : D (168 + 15 * w + 2) = 0
    · exact c_unplan_0 hV hR hw hl (Or.inr ⟨rfl, hi1, m_unplan_0 hV hM hw hl (en_no rfl (by decide) (hke KM_00))⟩)
    · obtain ⟨m, hm⟩ : ∃ m, D (168 + 15 * w + 2) = m + 1 := ⟨D (168 + 15 * w + 2) - 1, by omega⟩
      refine c_unplan hV hR hPC hw hm (fun u1 h1 => ⟨in529, hi1, m_unplan hV (M_C h1.1 hM) hn (PM_C h1.1 hn hPM) hw hm (fun u2 h2 => en_ok h2.2.2.2 ?_ (hk _ (ch_fin h0 (up_V hV hw) hn hPV h1 h2)))⟩)
      rw [h2.1.2 0]; rfl
theorem p_case_29 (h : sp_Inv u) (hL : Ln ≤ 3072) (hi : i + 6 ≤ Ln) (hk : ∀ u', sp_Inv u' → k u') : wp_case_29 ms_E0 Ln xs 0 233 529 (nI i) k u := by
  obtain ⟨D, l, h0, hc⟩ := h
  have hV := h0.1
  have hM := h0.2.1
  have hR := h0.2.2.1
  have b2 := hV.1.2.2.1
  obtain ⟨n, q, P, Q, hPa⟩ := h0.2.2.2.1
  obtain ⟨hPC, hPM, hPV⟩ := sp_Pa_split hPa
  have hn := hPC.1
  have hi1 : vp_in (nI i + 1) Ln := la_in hL hi (j := 1) (by omega)
  have hi2 : vp_in (nI i + 2) Ln := la_in hL hi (j := 2) (by omega)
  have hi3 : vp_in (nI i + 3) Ln := la_in hL hi (j := 3) (by omega)
  have hke : ∀ {v}, sp_KM u v → k v := fun q => hk _ (sp_Inv_q h0 sp_KC_refl hc q)
  unfold wp_case_29 wp_L_setHours
  refine ⟨hi1, hi2, hi3, ?_⟩
  generalize xs (Int32.toNatClampNeg (nI i + 1)) = a
  generalize xs (Int32.toNatClampNeg (nI i + 2)) = b
  generalize xs (Int32.toNatClampNeg (nI i + 3)) = c
  rcases ix2 a (n := D 2) (by omega) with hb | ⟨h, hh, rfl⟩
  · unfold wp_X10_setHours
    exact ckH_no hR.1.2.2.2.2.1 (by omega) hb (Or.inl ⟨rfl, hi1, hi2, hi3, m_setHours_no hV hM hb (en_no rfl (by decide) (hke KM_00))⟩)
  · by_cases hg : 0 ≤ b.toInt ∧ b.toInt < c.toInt ∧ c.toInt ≤ 1440
    · obtain ⟨f, hf, rfl⟩ : ∃ x : Nat, x < 1440 ∧ b = nI x := by
        rcases ix2 b (n := 1440) (by omega) with q | q
        · rw [Int32.lt_iff_toInt_lt, Int32.le_iff_toInt_le, nI_toInt (by omega), show (0 : Int32).toInt = 0 from rfl] at q
          omega
        · exact q
      obtain ⟨t, ht, rfl⟩ : ∃ x : Nat, x < 1441 ∧ c = nI x := by
        rcases ix2 c (n := 1441) (by omega) with q | q
        · rw [Int32.lt_iff_toInt_lt, Int32.le_iff_toInt_le, nI_toInt (by omega), show (0 : Int32).toInt = 0 from rfl] at q
          omega
        · exact q
      rw [nI_toInt (by omega), nI_toInt (by omega)] at hg
      have hft : f < t := by omega
      have ht2 : t ≤ 1440 := by omega
      refine c_setHours hV hR hPC hh hft ht2 (fun u1 h1 => ⟨in529, hi1, hi2, hi3, m_setHours hV (M_C h1.1 hM) hn (PM_C h1.1 hn hPM) hh hft ht2 (fun u2 h2 => en_ok h2.2.2.2 ?_ (hk _ (ch_fin h0 (sh_V hV hh hft ht2) hn hPV h1 h2)))⟩)
      rw [h2.1.2 0]; rfl
    · exact c_setHours_no2 hV hR hh hg (Or.inr ⟨rfl, hi1, hi2, hi3, m_setHours_no2 hV hM hh hg (en_no rfl (by decide) (hke KM_00))⟩)
theorem p_case_30 (h : sp_Inv u) (hL : Ln ≤ 3072) (hi : i + 6 ≤ Ln) (hk : ∀ u', sp_Inv u' → k u') : wp_case_30 ms_E0 Ln xs 0 233 529 (nI i) k u := by
  obtain ⟨D, l, h0, hc⟩ := h
  have hV := h0.1
  have hM := h0.2.1
  have hR := h0.2.2.1
  have b2 := hV.1.2.2.1
  obtain ⟨n, q, P, Q, hPa⟩ := h0.2.2.2.1
  obtain ⟨hPC, hPM, hPV⟩ := sp_Pa_split hPa
  have hn := hPC.1
  have hi1 : vp_in (nI i + 1) Ln := la_in hL hi (j := 1) (by omega)
  have hi2 : vp_in (nI i + 2) Ln := la_in hL hi (j := 2) (by omega)
  have hke : ∀ {v}, sp_KM u v → k v := fun q => hk _ (sp_Inv_q h0 sp_KC_refl hc q)
  unfold wp_case_30 wp_L_setDog wp_L_setDog_16
  refine ⟨hi1, hi2, ?_⟩
  generalize xs (Int32.toNatClampNeg (nI i + 1)) = a
  generalize xs (Int32.toNatClampNeg (nI i + 2)) = b
  rcases ix2 a (n := D 2) (by omega) with hb | ⟨h, hh, rfl⟩
  · unfold wp_X10_setDog
    exact ⟨fun e => ckH_no hR.1.2.2.2.2.1 (by omega) hb ⟨rfl, hi1, hi2, fun _ => m_setDog_no hV hM hb (en_bno rfl (by decide) (hke KM_00)), fun q => absurd e q⟩, fun e => ckH_no hR.1.2.2.2.2.1 (by omega) hb ⟨rfl, hi1, hi2, fun q => absurd q e, fun _ => m_setDog_no hV hM hb (en_bno rfl (by decide) (hke KM_00))⟩⟩
  · have main : ∀ g, g ≤ 1 → ∀ (u1 : ms_St) (x : Int64), ch_P u u1 D (sd_D D h g) l n P Q → (if nI (D (56 + 7 * h + 6)) = 0 then (0 : Int64) else 1) = x → wp_X11_setDog ms_E0 (ms_sJ u1 529 0 x) 233 (nI h) (nI g) (fun r v => en_b k 0 r v) := by
      intro g hg u1 x h1 hx
      refine m_setDog hV (M_C h1.1 hM) hn (PM_C h1.1 hn hPM) hh hg (fun u2 h2 => en_bok h2.2.2.2 ?_ (hk _ (ch_fin h0 (sd_V hV hh hg) hn hPV h1 h2)))
      rw [h2.1.2 0, hx]; rfl
    refine ⟨fun e => c_setDog (g := 0) hV hR hPC hh (by omega) (fun u1 h1 => ⟨fun z => ⟨in529, hi1, hi2, fun _ => main 0 (by omega) u1 _ h1 (if_pos z), fun q => absurd e q⟩, fun z => ⟨in529, hi1, hi2, fun _ => main 0 (by omega) u1 _ h1 (if_neg z), fun q => absurd e q⟩⟩), fun e => c_setDog (g := 1) hV hR hPC hh (by omega) (fun u1 h1 => ⟨fun z => ⟨in529, hi1, hi2, fun q => absurd q e, fun _ => main 1 (by omega) u1 _ h1 (if_pos z)⟩, fun z => ⟨in529, hi1, hi2, fun q => absurd q e, fun _ => main 1 (by omega) u1 _ h1 (if_neg z)⟩⟩)⟩
theorem p_case_31 (h : sp_Inv u) (hL : Ln ≤ 3072) (hi : i + 6 ≤ Ln) (hk : ∀ u', sp_Inv u' → k u') : wp_case_31 ms_E0 Ln xs 0 233 529 (nI i) k u := by
  obtain ⟨D, l, h0, hc⟩ := h
  have hV := h0.1
  have hM := h0.2.1
  have hR := h0.2.2.1
  have b1 := hV.1.2.1
  obtain ⟨n, q, P, Q, hPa⟩ := h0.2.2.2.1
  obtain ⟨hPC, hPM, hPV⟩ := sp_Pa_split hPa
  have hn := hPC.1
  have hi1 : vp_in (nI i + 1) Ln := la_in hL hi (j := 1) (by omega)
  have hi2 : vp_in (nI i + 2) Ln := la_in hL hi (j := 2) (by omega)
  have hke : ∀ {v}, sp_KM u v → k v := fun q => hk _ (sp_Inv_q h0 sp_KC_refl hc q)
  unfold wp_case_31 wp_L_setOpen wp_L_setOpen_16
  refine ⟨hi1, hi2, ?_⟩
  generalize xs (Int32.toNatClampNeg (nI i + 1)) = a
  generalize xs (Int32.toNatClampNeg (nI i + 2)) = b
  rcases ix2 a (n := D 1) (by omega) with hb | ⟨s, hs, rfl⟩
  · unfold wp_X10_setOpen
    exact ⟨fun e => ckS_no hR.1.2.2.2.1 (by omega) hb ⟨rfl, hi1, hi2, fun _ => m_setOpen_no hV hM hb (en_bno rfl (by decide) (hke KM_00)), fun q => absurd e q⟩, fun e => ckS_no hR.1.2.2.2.1 (by omega) hb ⟨rfl, hi1, hi2, fun q => absurd q e, fun _ => m_setOpen_no hV hM hb (en_bno rfl (by decide) (hke KM_00))⟩⟩
  · have main : ∀ g, g ≤ 1 → ∀ (u1 : ms_St) (x : Int64), ch_P u u1 D (so_D D s g) l n P Q → (if nI (1 - D (8 + 4 * s + 3)) = 0 then (0 : Int64) else 1) = x → wp_X11_setOpen ms_E0 (ms_sJ u1 529 0 x) 233 (nI s) (nI g) (fun r v => en_b k 0 r v) := by
      intro g hg u1 x h1 hx
      refine m_setOpen hV (M_C h1.1 hM) hn (PM_C h1.1 hn hPM) hs hg (fun u2 h2 => en_bok h2.2.2.2 ?_ (hk _ (ch_fin h0 (so_V hV hs) hn hPV h1 h2)))
      rw [h2.1.2 0, hx]; rfl
    refine ⟨fun e => c_setOpen (g := 0) hV hR hPC hs (by omega) (fun u1 h1 => ⟨fun z => ⟨in529, hi1, hi2, fun _ => main 0 (by omega) u1 _ h1 (if_pos z), fun q => absurd e q⟩, fun z => ⟨in529, hi1, hi2, fun _ => main 0 (by omega) u1 _ h1 (if_neg z), fun q => absurd e q⟩⟩), fun e => c_setOpen (g := 1) hV hR hPC hs (by omega) (fun u1 h1 => ⟨fun z => ⟨in529, hi1, hi2, fun q => absurd q e, fun _ => main 1 (by omega) u1 _ h1 (if_pos z)⟩, fun z => ⟨in529, hi1, hi2, fun q => absurd q e, fun _ => main 1 (by omega) u1 _ h1 (if_neg z)⟩⟩)⟩
theorem p_case_32 {x4 : Int32} (h : sp_Inv u) (hk : ∀ u', sp_Inv u' → k u') : wp_case_32 ms_E0 Ln xs 0 233 529 x4 k u := by
  obtain ⟨D, l, h0, hc⟩ := h
  obtain ⟨n, q, P, Q, hPa⟩ := h0.2.2.2.1
  obtain ⟨hPC, hPM, hPV⟩ := sp_Pa_split hPa
  have hn := hPC.1
  unfold wp_case_32
  cases n with
  | zero =>
    unfold wp_X10_undo wp_X11_undo
    rw [hPC.2.2.2.1]
    refine ⟨fun q => absurd q (nI_nlt (a := 0) (b := 0) (by omega) (by omega)), fun _ => ?_⟩
    have e : ms_I (ms_sI u 233 0 0) 233 11 = nI 0 := by rw [I_sI, if_neg (by omega)]; exact hPM.1
    dsimp only
    rw [e]
    exact ⟨fun _ => ⟨fun _ => hk _ (sp_Inv_q h0 sp_KC_refl hc KM_0), fun q => q rfl⟩, fun q => absurd rfl q⟩
  | succ m =>
    refine c_undo hPC (hPV m (by omega)) (fun u1 hC z1 z2 hT hPC1 => m_undo (by omega) (PM_eq hn hPM (fun a b q => hC a b (by omega))) (fun u2 hM2 hM' hPM' => ⟨fun _ => hk _ (sp_Inv_ch h0 hC hM2 (hPV m (by omega)) hT hM' hPC1 hPM' (fun j hj => hPV j (by omega)) (Ca_none z1 z2)), fun q => q rfl⟩))
end CJ
