/-! ===== questions of one row ===== -/
theorem ix2 (x : Int32) {n : Nat} (hn : n < 2 ^ 31) : (x < 0 ∨ nI n ≤ x) ∨ ∃ j : Nat, j < n ∧ x = nI j := by
  rcases pk_ix x hn with h | h | h
  · exact Or.inl (Or.inl h)
  · exact Or.inl (Or.inr h)
  · exact Or.inr h
theorem M_t {u : ms_St} {c k : Nat} {D : Nat → Nat} {x : Int32} (h : sp_M u c D) (hc : c ≠ 233) : sp_M (ms_sI u 233 k x) c D := fun j hj => by rw [I_sI_ne hc]; exact h j hj
theorem KM_00 {u : ms_St} {x y : Int32} : sp_KM u (ms_sI (ms_sI u 233 0 x) 233 0 y) := sp_KM_t (sp_KM_t sp_KM_refl (by decide)) (by decide)
theorem KM_0 {u : ms_St} {x : Int32} : sp_KM u (ms_sI u 233 0 x) := sp_KM_t sp_KM_refl (by decide)
theorem ixS (s j : Nat) : (8 : Int32) + 4 * nI s + nI j = nI (8 + 4 * s + j) := by rw [lit_I 8, lit_I 4, pk_mul, nI_add, nI_add]
theorem ixH (s j : Nat) : (56 : Int32) + 7 * nI s + nI j = nI (56 + 7 * s + j) := by rw [lit_I 56, lit_I 7, pk_mul, nI_add, nI_add]
theorem ixW (s j : Nat) : (168 : Int32) + 15 * nI s + nI j = nI (168 + 15 * s + j) := by rw [lit_I 168, lit_I 15, pk_mul, nI_add, nI_add]
theorem ixS0 (s : Nat) : (8 : Int32) + 4 * nI s = nI (8 + 4 * s) := by rw [lit_I 8, lit_I 4, pk_mul, nI_add]
theorem ixH0 (s : Nat) : (56 : Int32) + 7 * nI s = nI (56 + 7 * s) := by rw [lit_I 56, lit_I 7, pk_mul, nI_add]
theorem ixW0 (s : Nat) : (168 : Int32) + 15 * nI s = nI (168 + 15 * s) := by rw [lit_I 168, lit_I 15, pk_mul, nI_add]
section PA
variable {u : ms_St} {D : Nat → Nat} {l : List ms_Op} {a a2 : Int32} {post : Int32 → ms_St → Prop} {px : String → ms_St → Prop} {h s w t j : Nat}
/-! the class -/
theorem c_streetOf (hV : sp_V D l) (hR : sp_R (sp_T u 2) D l) (hh : h < D 2) (hp : post (nI (D (56 + 7 * h))) u) : wp_X10_streetOf ms_E0 u 0 (nI h) post px := by
  have h2 := hV.1.2.2.1
  have e : ms_I u 9 h = nI (D (56 + 7 * h)) := (hR.2.2.1 h hh).1
  unfold wp_X10_streetOf
  refine ckH_ok hR.1.2.2.2.2.1 (by omega) hh ⟨vp_in_nI (by omega) (by omega), ?_⟩
  simp only [at_0_3, at_2_4, at_8_1, nI_clamp (show h < 2 ^ 31 by omega), e]
  exact hp
theorem c_streetOf_no (hV : sp_V D l) (hR : sp_R (sp_T u 2) D l) (hb : a < 0 ∨ nI (D 2) ≤ a) (hp : px "java/lang/IndexOutOfBoundsException" u) : wp_X10_streetOf ms_E0 u 0 a post px := by
  have h2 := hV.1.2.2.1
  unfold wp_X10_streetOf
  exact ckH_no hR.1.2.2.2.2.1 (by omega) hb hp
theorem c_isOpen (hV : sp_V D l) (hR : sp_R (sp_T u 2) D l) (hh : s < D 1) (hp : post (nI (1 - D (8 + 4 * s + 3))) u) : wp_X10_isOpen ms_E0 u 0 (nI s) post px := by
  have h2 := hV.1.2.1
  have e : ms_I u 7 s = nI (1 - D (8 + 4 * s + 3)) := (hR.2.1 s hh).2.2.2
  unfold wp_X10_isOpen
  refine ckS_ok hR.1.2.2.2.1 (by omega) hh ⟨vp_in_nI (by omega) (by omega), ?_⟩
  simp only [at_0_3, at_2_3, at_3_4, nI_clamp (show s < 2 ^ 31 by omega), e]
  refine ⟨?_, hp⟩
  rcases Nat.lt_or_ge 0 (D (8 + 4 * s + 3)) with q | q
  · rw [show 1 - D (8 + 4 * s + 3) = 0 by omega]; exact Or.inl rfl
  · rw [show 1 - D (8 + 4 * s + 3) = 1 by omega]; exact Or.inr rfl
theorem c_isOpen_no (hV : sp_V D l) (hR : sp_R (sp_T u 2) D l) (hb : a < 0 ∨ nI (D 1) ≤ a) (hp : px "java/lang/IndexOutOfBoundsException" u) : wp_X10_isOpen ms_E0 u 0 a post px := by
  have h2 := hV.1.2.1
  unfold wp_X10_isOpen
  exact ckS_no hR.1.2.2.2.1 (by omega) hb hp
theorem nI01 {n : Nat} (h : n ≤ 1) : nI n = 0 ∨ nI n = 1 := by
  rcases Nat.lt_or_ge 0 n with q | q
  · rw [show n = 1 by omega]; exact Or.inr rfl
  · rw [show n = 0 by omega]; exact Or.inl rfl
theorem c_hasDog (hV : sp_V D l) (hR : sp_R (sp_T u 2) D l) (hh : h < D 2) (hp : post (nI (D (56 + 7 * h + 6))) u) : wp_X10_hasDog ms_E0 u 0 (nI h) post px := by
  have h2 := hV.1.2.2.1
  have e : ms_I u 15 h = nI (D (56 + 7 * h + 6)) := (hR.2.2.1 h hh).2.2.2.2.2.2.1
  unfold wp_X10_hasDog
  refine ckH_ok hR.1.2.2.2.2.1 (by omega) hh ⟨vp_in_nI (by omega) (by omega), ?_⟩
  simp only [at_0_3, at_2_4, at_8_7, nI_clamp (show h < 2 ^ 31 by omega), e]
  exact ⟨nI01 (hV.2.2.1 h hh).2.2.2.2.2.2, hp⟩
theorem c_hasDog_no (hV : sp_V D l) (hR : sp_R (sp_T u 2) D l) (hb : a < 0 ∨ nI (D 2) ≤ a) (hp : px "java/lang/IndexOutOfBoundsException" u) : wp_X10_hasDog ms_E0 u 0 a post px := by
  have h2 := hV.1.2.2.1
  unfold wp_X10_hasDog
  exact ckH_no hR.1.2.2.2.2.1 (by omega) hb hp
/-- at home: houses.homeAt -/
theorem c_homeAt (hV : sp_V D l) (hR : sp_R (sp_T u 2) D l) (hh : h < D 2) (ht : t < 2 ^ 31) (hp : post (if D (56 + 7 * h + 4) ≤ t ∧ t < D (56 + 7 * h + 5) then 1 else 0) u) : wp_X0_homeAt ms_E0 u 8 (nI h) (nI t) post := by
  have h2 := hV.1.2.2.1
  have v := hV.2.2.1 h hh
  have e1 : ms_I u 13 h = nI (D (56 + 7 * h + 4)) := (hR.2.2.1 h hh).2.2.2.2.1
  have e2 : ms_I u 14 h = nI (D (56 + 7 * h + 5)) := (hR.2.2.1 h hh).2.2.2.2.2.1
  have e0 : ms_I u 8 0 = nI (D 2) := hR.1.2.2.2.2.1
  unfold wp_X0_homeAt wp_X0_homeAt_32 wp_X0_homeAt_33
  simp only [q_X0_has, ite01, e0]
  refine ⟨fun _ => ⟨vp_in_nI (by omega) (by omega), ?_⟩, fun q => absurd (good01 (by omega) hh) q⟩
  simp only [at_8_5, at_8_6, nI_clamp (show h < 2 ^ 31 by omega), e1, e2]
  refine pk_lt t (D (56 + 7 * h + 4)) (fun q => ?_) (fun q => ⟨vp_in_nI (by omega) (by omega), ?_⟩)
  · rw [if_neg (by omega)] at hp; exact ⟨by simp, hp⟩
  · refine pk_le (D (56 + 7 * h + 5)) t (fun q => ?_) (fun q => ?_)
    · rw [if_neg (by omega)] at hp; exact ⟨by simp, hp⟩
    · rw [if_pos (by omega)] at hp; exact ⟨by simp, hp⟩
theorem c_isHome (hV : sp_V D l) (hR : sp_R (sp_T u 2) D l) (hh : h < D 2) (ht : t < 10000) (hp : post (if D (56 + 7 * h + 4) ≤ t ∧ t < D (56 + 7 * h + 5) then 1 else 0) u) : wp_X10_isHome ms_E0 u 0 (nI h) (nI t) post px := by
  have h2 := hV.1.2.2.1
  unfold wp_X10_isHome
  refine ckH_ok hR.1.2.2.2.2.1 (by omega) hh ⟨fun q => absurd q (nI_pos (by omega)), fun _ => ⟨fun _ => ?_, fun q => absurd (nI_le (show t ≤ 9999 by omega) (by omega)) q⟩⟩
  simp only [at_0_3, at_2_4]
  refine c_homeAt hV hR hh (by omega) ⟨?_, hp⟩
  split <;> simp
theorem c_isHome_no (hV : sp_V D l) (hR : sp_R (sp_T u 2) D l) (hb : a < 0 ∨ nI (D 2) ≤ a) (hp : px "java/lang/IndexOutOfBoundsException" u) : wp_X10_isHome ms_E0 u 0 a a2 post px := by
  have h2 := hV.1.2.2.1
  unfold wp_X10_isHome
  exact ckH_no hR.1.2.2.2.2.1 (by omega) hb hp
theorem c_isHome_no2 (hV : sp_V D l) (hR : sp_R (sp_T u 2) D l) (hh : h < D 2) (hb : a < 0 ∨ nI 10000 ≤ a) (hp : px "java/lang/IllegalArgumentException" u) : wp_X10_isHome ms_E0 u 0 (nI h) a post px := by
  have h2 := hV.1.2.2.1
  unfold wp_X10_isHome wp_X10_isHome_16
  refine ckH_ok hR.1.2.2.2.2.1 (by omega) hh ⟨fun q => hp, fun q => ⟨fun q2 => ?_, fun _ => hp⟩⟩
  rcases hb with hb | hb
  · exact absurd hb q
  · have e : ¬ (nI 10000 : Int32) ≤ 9999 := by decide
    exact absurd (Int32.le_trans hb q2) e
theorem c_planLength (hV : sp_V D l) (hR : sp_R (sp_T u 2) D l) (hh : w < D 3) (hp : post (nI (D (168 + 15 * w + 2))) u) : wp_X10_planLength ms_E0 u 0 (nI w) post px := by
  have h2 := hV.1.2.2.2.1
  have e : ms_I u 20 w = nI (D (168 + 15 * w + 2)) := (hR.2.2.2 w hh).2.2.1
  unfold wp_X10_planLength
  refine ckW_ok hR.1.2.2.2.2.2 (by omega) hh ⟨vp_in_nI (by omega) (by omega), ?_⟩
  simp only [at_0_3, at_2_5, at_17_3, nI_clamp (show w < 2 ^ 31 by omega), e]
  exact hp
theorem c_planLength_no (hV : sp_V D l) (hR : sp_R (sp_T u 2) D l) (hb : a < 0 ∨ nI (D 3) ≤ a) (hp : px "java/lang/IndexOutOfBoundsException" u) : wp_X10_planLength ms_E0 u 0 a post px := by
  have h2 := hV.1.2.2.2.1
  unfold wp_X10_planLength
  exact ckW_no hR.1.2.2.2.2.2 (by omega) hb hp
theorem c_ckP {pv : ms_St → Prop} (hV : sp_V D l) (hR : sp_R (sp_T u 2) D l) (hw : w < D 3) (hj : j < D (168 + 15 * w + 2)) (hp : pv u) : wp_X10_checkPlanIndex ms_E0 u 0 (nI w) (nI j) pv px := by
  have h2 := hV.1.2.2.2.1
  have h3 := (hV.2.2.2.1 w hw).2.2.1
  have e : ms_I u 20 w = nI (D (168 + 15 * w + 2)) := (hR.2.2.2 w hw).2.2.1
  unfold wp_X10_checkPlanIndex
  refine ckW_ok hR.1.2.2.2.2.2 (by omega) hw ⟨fun q => absurd q (nI_pos (by omega)), fun _ => ⟨vp_in_nI (by omega) (by omega), ?_⟩⟩
  simp only [at_0_3, at_2_5, at_17_3, nI_clamp (show w < 2 ^ 31 by omega), e]
  exact ⟨fun _ => hp, fun q => absurd (nI_lt hj (by omega)) q⟩
theorem c_ckP_no {pv : ms_St → Prop} (hV : sp_V D l) (hR : sp_R (sp_T u 2) D l) (hb : a < 0 ∨ nI (D 3) ≤ a) (hp : px "java/lang/IndexOutOfBoundsException" u) : wp_X10_checkPlanIndex ms_E0 u 0 a a2 pv px := by
  have h2 := hV.1.2.2.2.1
  unfold wp_X10_checkPlanIndex
  exact ckW_no hR.1.2.2.2.2.2 (by omega) hb hp
theorem c_ckP_no2 {pv : ms_St → Prop} (hV : sp_V D l) (hR : sp_R (sp_T u 2) D l) (hw : w < D 3) (hb : a < 0 ∨ nI (D (168 + 15 * w + 2)) ≤ a) (hp : px "java/lang/IndexOutOfBoundsException" u) : wp_X10_checkPlanIndex ms_E0 u 0 (nI w) a pv px := by
  have h2 := hV.1.2.2.2.1
  have h3 := (hV.2.2.2.1 w hw).2.2.1
  have e : ms_I u 20 w = nI (D (168 + 15 * w + 2)) := (hR.2.2.2 w hw).2.2.1
  unfold wp_X10_checkPlanIndex wp_X10_checkPlanIndex_25
  refine ckW_ok hR.1.2.2.2.2.2 (by omega) hw ⟨fun q => hp, fun q => ⟨vp_in_nI (by omega) (by omega), ?_⟩⟩
  simp only [at_0_3, at_2_5, at_17_3, nI_clamp (show w < 2 ^ 31 by omega), e]
  refine ⟨fun q2 => ?_, fun _ => hp⟩
  rcases hb with hb | hb
  · exact absurd hb q
  · exact absurd q2 (Int32.not_lt.mpr hb)
/-- walkers.plannedHouse -/
theorem c_plannedHouse (hV : sp_V D l) (hR : sp_R (sp_T u 2) D l) (hw : w < D 3) (hj : j < D (168 + 15 * w + 2)) (hp : post (nI (D (168 + 15 * w + 3 + j))) u) : wp_X9_plannedHouse ms_E0 u 17 (nI w) (nI j) post := by
  have h2 := hV.1.2.2.2.1
  have h3 := (hV.2.2.2.1 w hw).2.2.1
  have e0 : ms_I u 17 0 = nI (D 3) := hR.1.2.2.2.2.2
  have e : ms_I u 20 w = nI (D (168 + 15 * w + 2)) := (hR.2.2.2 w hw).2.2.1
  have e2 : ms_I u 21 (w * 12 + j) = nI (D (168 + 15 * w + 3 + j)) := (hR.2.2.2 w hw).2.2.2 j hj
  have ei : nI w * 12 + nI j = nI (w * 12 + j) := by rw [lit_I 12, pk_mul, nI_add]
  unfold wp_X9_plannedHouse
  simp only [q_X9_has, ite01, e0]
  refine ⟨fun _ => ⟨fun q => absurd q (nI_pos (by omega)), fun _ => ⟨vp_in_nI (by omega) (by omega), ?_⟩⟩, fun q => absurd (good01 (by omega) hw) q⟩
  simp only [at_17_3, at_17_4, nI_clamp (show w < 2 ^ 31 by omega), e, ei, nI_clamp (show w * 12 + j < 2 ^ 31 by omega), e2]
  exact ⟨fun _ => ⟨vp_in_nI (by omega) (by omega), hp⟩, fun q => absurd (nI_lt hj (by omega)) q⟩
theorem c_plannedHouse_no (hV : sp_V D l) (hR : sp_R (sp_T u 2) D l) (hw : w < D 3) (hj : D (168 + 15 * w + 2) ≤ j) (hj2 : j < 2 ^ 31) (hp : post NO u) : wp_X9_plannedHouse ms_E0 u 17 (nI w) (nI j) post := by
  have h2 := hV.1.2.2.2.1
  have h3 := (hV.2.2.2.1 w hw).2.2.1
  have e0 : ms_I u 17 0 = nI (D 3) := hR.1.2.2.2.2.2
  have e : ms_I u 20 w = nI (D (168 + 15 * w + 2)) := (hR.2.2.2 w hw).2.2.1
  unfold wp_X9_plannedHouse wp_X9_plannedHouse_22
  simp only [q_X9_has, ite01, e0]
  refine ⟨fun _ => ⟨fun q => absurd q (nI_pos (by omega)), fun _ => ⟨vp_in_nI (by omega) (by omega), ?_⟩⟩, fun q => absurd (good01 (by omega) hw) q⟩
  simp only [at_17_3, at_17_4, nI_clamp (show w < 2 ^ 31 by omega), e]
  exact ⟨fun q => absurd q (nI_nlt hj (by omega)), fun _ => hp⟩
theorem c_planned (hV : sp_V D l) (hR : sp_R (sp_T u 2) D l) (hw : w < D 3) (hj : j < D (168 + 15 * w + 2)) (hp : post (nI (D (168 + 15 * w + 3 + j))) u) : wp_X10_planned ms_E0 u 0 (nI w) (nI j) post px := by
  unfold wp_X10_planned
  refine c_ckP hV hR hw hj ?_
  simp only [at_0_3, at_2_5]
  exact c_plannedHouse hV hR hw hj hp
/-! the reference -/
theorem m_streetOf (hV : sp_V D l) (hM : sp_M u 235 D) (hh : h < D 2) (hp : post (nI (D (56 + 7 * h))) (ms_sI u 233 0 0)) : wp_X11_streetOf ms_E0 u 233 (nI h) post := by
  have h2 := hV.1.2.2.1
  unfold wp_X11_streetOf wp_X11_house wp_X11_streetOf_26
  refine noH_ok (D := D) (M_t hM (by decide)) h2 hh rfl ⟨fun _ => ?_, fun q => absurd rfl q⟩
  simp only [at_233_8, ixH0, nI_clamp (show 56 + 7 * h < 2 ^ 31 by omega), I_sI_ne (show 235 ≠ 233 by decide), hM _ (show 56 + 7 * h < 1613 by omega)]
  exact ⟨vp_in_nI (by omega) (by omega), hp⟩
theorem m_streetOf_no (hV : sp_V D l) (hM : sp_M u 235 D) (hb : a < 0 ∨ nI (D 2) ≤ a) (hp : post 0 (ms_sI (ms_sI u 233 0 0) 233 0 1)) : wp_X11_streetOf ms_E0 u 233 a post := by
  unfold wp_X11_streetOf
  exact noH_no (D := D) (M_t hM (by decide)) hV.1.2.2.1 hb rfl ⟨fun q => absurd q (by decide), fun _ => hp⟩
theorem m_isOpen (hV : sp_V D l) (hM : sp_M u 235 D) (hh : s < D 1) (hp : post (nI (1 - D (8 + 4 * s + 3))) (ms_sI u 233 0 0)) : wp_X11_isOpen ms_E0 u 233 (nI s) post := by
  have h2 := hV.1.2.1
  have v := hV.2.1 s hh
  unfold wp_X11_isOpen wp_X11_street wp_X11_isOpen_32 wp_X11_isOpen_31
  refine noS_ok (D := D) (M_t hM (by decide)) (by omega) hh rfl ⟨fun _ => ?_, fun q => absurd rfl q⟩
  simp only [at_233_8, show (3 : Int32) = nI 3 from rfl, ixS, nI_clamp (show 8 + 4 * s + 3 < 2 ^ 31 by omega), I_sI_ne (show 235 ≠ 233 by decide), hM _ (show 8 + 4 * s + 3 < 1613 by omega)]
  refine ⟨vp_in_nI (by omega) (by omega), pk_eq (D (8 + 4 * s + 3)) 0 (fun q => ?_) (fun q => ?_)⟩
  · rw [q] at hp; exact ⟨by simp, hp⟩
  · rw [show 1 - D (8 + 4 * s + 3) = 0 by omega] at hp; exact ⟨by simp, hp⟩
theorem m_isOpen_no (hV : sp_V D l) (hM : sp_M u 235 D) (hb : a < 0 ∨ nI (D 1) ≤ a) (hp : post 0 (ms_sI (ms_sI u 233 0 0) 233 0 1)) : wp_X11_isOpen ms_E0 u 233 a post := by
  have := hV.1.2.1
  unfold wp_X11_isOpen
  exact noS_no (D := D) (M_t hM (by decide)) (by omega) hb rfl ⟨fun q => absurd q (by decide), fun _ => ⟨by simp, hp⟩⟩
theorem m_hasDog (hV : sp_V D l) (hM : sp_M u 235 D) (hh : h < D 2) (hp : post (nI (D (56 + 7 * h + 6))) (ms_sI u 233 0 0)) : wp_X11_hasDog ms_E0 u 233 (nI h) post := by
  have h2 := hV.1.2.2.1
  have v := hV.2.2.1 h hh
  unfold wp_X11_hasDog wp_X11_house wp_X11_hasDog_34 wp_X11_hasDog_33
  refine noH_ok (D := D) (M_t hM (by decide)) h2 hh rfl ⟨fun _ => ?_, fun q => absurd rfl q⟩
  simp only [at_233_8, show (6 : Int32) = nI 6 from rfl, ixH, nI_clamp (show 56 + 7 * h + 6 < 2 ^ 31 by omega), I_sI_ne (show 235 ≠ 233 by decide), hM _ (show 56 + 7 * h + 6 < 1613 by omega)]
  refine ⟨vp_in_nI (by omega) (by omega), pk_eq (D (56 + 7 * h + 6)) 1 (fun q => ?_) (fun q => ?_)⟩
  · rw [q] at hp; exact ⟨by simp, hp⟩
  · rw [show D (56 + 7 * h + 6) = 0 by omega] at hp; exact ⟨by simp, hp⟩
theorem m_hasDog_no (hV : sp_V D l) (hM : sp_M u 235 D) (hb : a < 0 ∨ nI (D 2) ≤ a) (hp : post 0 (ms_sI (ms_sI u 233 0 0) 233 0 1)) : wp_X11_hasDog ms_E0 u 233 a post := by
  unfold wp_X11_hasDog
  exact noH_no (D := D) (M_t hM (by decide)) hV.1.2.2.1 hb rfl ⟨fun q => absurd q (by decide), fun _ => ⟨by simp, hp⟩⟩
theorem m_home (hV : sp_V D l) (hM : sp_M u 235 D) (hh : h < D 2) (ht : t < 2 ^ 31) (hp : post (if D (56 + 7 * h + 4) ≤ t ∧ t < D (56 + 7 * h + 5) then 1 else 0) u) : wp_X11_home ms_E0 u 233 (nI h) (nI t) post := by
  have h2 := hV.1.2.2.1
  have v := hV.2.2.1 h hh
  unfold wp_X11_home wp_X11_house wp_X11_home_35 wp_X11_home_34 wp_X11_home_35
  simp only [at_233_8, show (4 : Int32) = nI 4 from rfl, show (5 : Int32) = nI 5 from rfl, ixH, nI_clamp (show 56 + 7 * h + 4 < 2 ^ 31 by omega), nI_clamp (show 56 + 7 * h + 5 < 2 ^ 31 by omega), hM _ (show 56 + 7 * h + 4 < 1613 by omega), hM _ (show 56 + 7 * h + 5 < 1613 by omega)]
  refine ⟨vp_in_nI (by omega) (by omega), pk_lt t (D (56 + 7 * h + 4)) (fun q => ?_) (fun q => ⟨vp_in_nI (by omega) (by omega), ?_⟩)⟩
  · rw [if_neg (by omega)] at hp; exact ⟨by simp, hp⟩
  · refine pk_le (D (56 + 7 * h + 5)) t (fun q => ?_) (fun q => ?_)
    · rw [if_neg (by omega)] at hp; exact ⟨by simp, hp⟩
    · rw [if_pos (by omega)] at hp; exact ⟨by simp, hp⟩
theorem m_isHome (hV : sp_V D l) (hM : sp_M u 235 D) (hh : h < D 2) (ht : t < 10000) (hp : post (if D (56 + 7 * h + 4) ≤ t ∧ t < D (56 + 7 * h + 5) then 1 else 0) (ms_sI u 233 0 0)) : wp_X11_isHome ms_E0 u 233 (nI h) (nI t) post := by
  have h2 := hV.1.2.2.1
  unfold wp_X11_isHome wp_X11_isHome_30 wp_X11_isHome_50 wp_X11_isHome_51
  refine noH_ok (D := D) (M_t hM (by decide)) h2 hh rfl ⟨fun _ => ?_, fun q => absurd rfl q⟩
  rw [q_X11_in, if_pos ⟨nI_pos' (by omega), nI_le (b := 9999) (by omega) (by decide)⟩]
  refine ⟨fun q => absurd q (by decide), fun _ => fails_ok rfl ⟨fun _ => m_home hV (M_t hM (by decide)) hh (by omega) ?_, fun q => absurd rfl q⟩⟩
  split
  · rename_i q; rw [if_pos q] at hp; exact ⟨fun q => absurd q (by decide), fun _ => ⟨by simp, hp⟩⟩
  · rename_i q; rw [if_neg q] at hp; exact ⟨fun _ => ⟨by simp, hp⟩, fun q => absurd rfl q⟩
theorem m_isHome_no (hV : sp_V D l) (hM : sp_M u 235 D) (hb : a < 0 ∨ nI (D 2) ≤ a) (hp : post 0 (ms_sI (ms_sI u 233 0 0) 233 0 1)) : wp_X11_isHome ms_E0 u 233 a a2 post := by
  unfold wp_X11_isHome
  exact noH_no (D := D) (M_t hM (by decide)) hV.1.2.2.1 hb rfl ⟨fun q => absurd q (by decide), fun _ => ⟨by simp, hp⟩⟩
theorem m_isHome_no2 (hV : sp_V D l) (hM : sp_M u 235 D) (hh : h < D 2) (hb : a < 0 ∨ nI 10000 ≤ a) (hp : post 0 (ms_sI (ms_sI u 233 0 0) 233 0 2)) : wp_X11_isHome ms_E0 u 233 (nI h) a post := by
  unfold wp_X11_isHome wp_X11_isHome_30 wp_X11_isHome_50 wp_X11_isHome_51
  refine noH_ok (D := D) (M_t hM (by decide)) hV.1.2.2.1 hh rfl ⟨fun _ => ?_, fun q => absurd rfl q⟩
  have hn : ¬ ((0 : Int32) ≤ a ∧ a ≤ 9999) := in_no (n := 10000) (by omega) hb
  rw [q_X11_in, if_neg hn]
  exact ⟨fun _ => fails_no rfl (by decide) (by decide) ⟨fun q => absurd q (by decide), fun _ => ⟨by simp, hp⟩⟩, fun q => absurd rfl q⟩
theorem m_planLength (hV : sp_V D l) (hM : sp_M u 235 D) (hh : w < D 3) (hp : post (nI (D (168 + 15 * w + 2))) (ms_sI u 233 0 0)) : wp_X11_planLength ms_E0 u 233 (nI w) post := by
  have h2 := hV.1.2.2.2.1
  unfold wp_X11_planLength wp_X11_walker wp_X11_planLength_28
  refine noW_ok (D := D) (M_t hM (by decide)) (by omega) hh rfl ⟨fun _ => ?_, fun q => absurd rfl q⟩
  simp only [at_233_8, show (2 : Int32) = nI 2 from rfl, ixW, nI_clamp (show 168 + 15 * w + 2 < 2 ^ 31 by omega), I_sI_ne (show 235 ≠ 233 by decide), hM _ (show 168 + 15 * w + 2 < 1613 by omega)]
  exact ⟨vp_in_nI (by omega) (by omega), hp⟩
theorem m_planLength_no (hV : sp_V D l) (hM : sp_M u 235 D) (hb : a < 0 ∨ nI (D 3) ≤ a) (hp : post 0 (ms_sI (ms_sI u 233 0 0) 233 0 1)) : wp_X11_planLength ms_E0 u 233 a post := by
  have h2 := hV.1.2.2.2.1
  unfold wp_X11_planLength
  exact noW_no (D := D) (M_t hM (by decide)) (by omega) hb rfl ⟨fun q => absurd q (by decide), fun _ => hp⟩
theorem m_noP (hV : sp_V D l) (hM : sp_M u 235 D) (h0 : ms_I u 233 0 = 0) (hw : w < D 3) (hj : j < D (168 + 15 * w + 2)) (hp : post 0 u) : wp_X11_noPlanned ms_E0 u 233 (nI w) (nI j) post := by
  have h2 := hV.1.2.2.2.1
  have h3 := (hV.2.2.2.1 w hw).2.2.1
  unfold wp_X11_noPlanned wp_X11_walker wp_X11_noPlanned_35 wp_X11_noPlanned_47
  refine noW_ok (D := D) hM (by omega) hw h0 ⟨fun _ => ?_, fun q => absurd rfl q⟩
  simp only [at_233_8, show (2 : Int32) = nI 2 from rfl, ixW, nI_clamp (show 168 + 15 * w + 2 < 2 ^ 31 by omega), hM _ (show 168 + 15 * w + 2 < 1613 by omega), q_X11_in]
  rw [if_pos (in_ok (by omega) hj)]
  exact ⟨vp_in_nI (by omega) (by omega), fun q => absurd q (by decide), fun _ => fails_ok h0 ⟨fun _ => ⟨by simp, hp⟩, fun q => absurd rfl q⟩⟩
theorem m_noP_no (hV : sp_V D l) (hM : sp_M u 235 D) (h0 : ms_I u 233 0 = 0) (hb : a < 0 ∨ nI (D 3) ≤ a) (hp : post 1 (ms_sI u 233 0 1)) : wp_X11_noPlanned ms_E0 u 233 a a2 post := by
  have h2 := hV.1.2.2.2.1
  unfold wp_X11_noPlanned
  exact noW_no (D := D) hM (by omega) hb h0 ⟨fun q => absurd q (by decide), fun _ => ⟨by simp, hp⟩⟩
theorem m_noP_no2 (hV : sp_V D l) (hM : sp_M u 235 D) (h0 : ms_I u 233 0 = 0) (hw : w < D 3) (hb : a < 0 ∨ nI (D (168 + 15 * w + 2)) ≤ a) (hp : post 1 (ms_sI u 233 0 1)) : wp_X11_noPlanned ms_E0 u 233 (nI w) a post := by
  have h2 := hV.1.2.2.2.1
  have h3 := (hV.2.2.2.1 w hw).2.2.1
  unfold wp_X11_noPlanned wp_X11_walker wp_X11_noPlanned_35 wp_X11_noPlanned_42 wp_X11_noPlanned_47
  refine noW_ok (D := D) hM (by omega) hw h0 ⟨fun _ => ?_, fun q => absurd rfl q⟩
  simp only [at_233_8, show (2 : Int32) = nI 2 from rfl, ixW, nI_clamp (show 168 + 15 * w + 2 < 2 ^ 31 by omega), hM _ (show 168 + 15 * w + 2 < 1613 by omega), q_X11_in]
  rw [if_neg (in_no (by omega) hb)]
  exact ⟨vp_in_nI (by omega) (by omega), fun _ => fails_no h0 (by decide) (by decide) ⟨fun q => absurd q (by decide), fun _ => ⟨by simp, hp⟩⟩, fun q => absurd rfl q⟩
theorem m_planned (hV : sp_V D l) (hM : sp_M u 235 D) (hw : w < D 3) (hj : j < D (168 + 15 * w + 2)) (hp : post (nI (D (168 + 15 * w + 3 + j))) (ms_sI u 233 0 0)) : wp_X11_planned ms_E0 u 233 (nI w) (nI j) post := by
  have h2 := hV.1.2.2.2.1
  have h3 := (hV.2.2.2.1 w hw).2.2.1
  unfold wp_X11_planned wp_X11_walker wp_X11_planned_31
  refine m_noP hV (M_t hM (by decide)) rfl hw hj ⟨fun _ => ?_, fun q => absurd rfl q⟩
  simp only [at_233_8, show (3 : Int32) = nI 3 from rfl, ixW, nI_add, nI_clamp (show 168 + 15 * w + 3 + j < 2 ^ 31 by omega), I_sI_ne (show 235 ≠ 233 by decide), hM _ (show 168 + 15 * w + 3 + j < 1613 by omega)]
  exact ⟨vp_in_nI (by omega) (by omega), hp⟩
end PA
