/-! ===== the reference reads its ways ===== -/
def fm_W (u : ms_St) (D : Nat → Nat) : Prop := ∀ a b, a < D 0 → b < D 0 → ms_I u (247 + a) b = nI (sp_W D a b)
section PY
variable {u : ms_St} {D : Nat → Nat} {l : List ms_Op} {post : Int32 → ms_St → Prop} {g h c : Nat}
theorem m_streetAt (hV : sp_V D l) (hM : sp_M u 235 D) (hh : h < D 2) (hp : post (nI (8 + 4 * D (56 + 7 * h))) u) : wp_X11_streetAt ms_E0 u 233 (nI h) post := by
  have c2 := hV.1.2.2.1
  unfold wp_X11_streetAt wp_X11_house wp_X11_street
  simp only [at_233_8, ixH0, nI_clamp (show 56 + 7 * h < 2 ^ 31 by omega), hM _ (show 56 + 7 * h < 1613 by omega), ixS0]
  exact ⟨vp_in_nI (by omega) (by omega), hp⟩
theorem m_toStart (hV : sp_V D l) (hM : sp_M u 235 D) (hh : h < D 2) (hp : post (nI (D (56 + 7 * h + 1))) u) : wp_X11_toStart ms_E0 u 233 (nI h) post := by
  have c2 := hV.1.2.2.1
  unfold wp_X11_toStart wp_X11_house
  simp only [at_233_8, show (1 : Int32) = nI 1 from rfl, ixH, nI_clamp (show 56 + 7 * h + 1 < 2 ^ 31 by omega), hM _ (show 56 + 7 * h + 1 < 1613 by omega)]
  exact ⟨vp_in_nI (by omega) (by omega), hp⟩
theorem m_toEnd (hV : sp_V D l) (hM : sp_M u 235 D) (hh : h < D 2) (hp : post (nI (D (8 + 4 * D (56 + 7 * h) + 2) - D (56 + 7 * h + 1))) u) : wp_X11_toEnd ms_E0 u 233 (nI h) post := by
  have v := hV.2.2.1 h hh
  have c1 := hV.1.2.1
  unfold wp_X11_toEnd
  refine m_streetAt hV hM hh ?_
  simp only [at_233_8, show (2 : Int32) = nI 2 from rfl, nI_add, nI_clamp (show 8 + 4 * D (56 + 7 * h) + 2 < 2 ^ 31 by omega), hM _ (show 8 + 4 * D (56 + 7 * h) + 2 < 1613 by omega)]
  refine ⟨vp_in_nI (by omega) (by omega), m_toStart hV hM hh ?_⟩
  rw [pk_sub v.2.1]
  exact hp
theorem m_isShut (hV : sp_V D l) (hM : sp_M u 235 D) (hh : h < D 2) (hp : post (if D (8 + 4 * D (56 + 7 * h) + 3) = 1 then 1 else 0) u) : wp_X11_isShut ms_E0 u 233 (nI h) post := by
  have v := hV.2.2.1 h hh
  have vs := hV.2.1 _ v.1
  have c1 := hV.1.2.1
  unfold wp_X11_isShut wp_X11_isShut_21
  refine m_streetAt hV hM hh ?_
  simp only [at_233_8, show (3 : Int32) = nI 3 from rfl, nI_add, nI_clamp (show 8 + 4 * D (56 + 7 * h) + 3 < 2 ^ 31 by omega), hM _ (show 8 + 4 * D (56 + 7 * h) + 3 < 1613 by omega)]
  refine ⟨vp_in_nI (by omega) (by omega), pk_eq (D (8 + 4 * D (56 + 7 * h) + 3)) 1 (fun q => ?_) (fun q => ?_)⟩
  · rw [if_pos q] at hp; exact ⟨by simp, hp⟩
  · rw [if_neg q] at hp; exact ⟨by simp, hp⟩
theorem m_fromCrossing (hV : sp_V D l) (hM : sp_M u 235 D) (hW : fm_W u D) (hc : c < D 0) (hh : h < D 2) (hp : post (nI (sp_fc D c h)) u) : wp_X11_fromCrossing ms_E0 u 233 (nI c) (nI h) post := by
  have v := hV.2.2.1 h hh
  have vs := hV.2.1 _ v.1
  have c0 := hV.1.1
  have c1 := hV.1.2.1
  have b1 := (wy_ZW hV).2 c (D (8 + 4 * D (56 + 7 * h)))
  have b2 := (wy_ZW hV).2 c (D (8 + 4 * D (56 + 7 * h) + 1))
  unfold sp_fc at hp
  unfold wp_X11_fromCrossing
  refine m_isShut hV hM hh ?_
  by_cases q : D (8 + 4 * D (56 + 7 * h) + 3) = 1
  · rw [if_pos q] at hp ⊢
    exact ⟨fun q => absurd q (by decide), fun _ => hp⟩
  rw [if_neg q] at hp ⊢
  refine ⟨fun _ => ⟨vp_in_nI (by omega) (by omega), m_streetAt hV hM hh ?_⟩, fun q => absurd rfl q⟩
  rw [at_233_8, nI_clamp (show 8 + 4 * D (56 + 7 * h) < 2 ^ 31 by omega), hM _ (show 8 + 4 * D (56 + 7 * h) < 1613 by omega)]
  refine ⟨vp_in_nI (by omega) (by omega), vp_in_nI (by omega) (by omega), m_toStart hV hM hh ⟨vp_in_nI (by omega) (by omega), m_streetAt hV hM hh ?_⟩⟩
  rw [show (1 : Int32) = nI 1 from rfl, nI_add, nI_clamp (show 8 + 4 * D (56 + 7 * h) + 1 < 2 ^ 31 by omega), hM _ (show 8 + 4 * D (56 + 7 * h) + 1 < 1613 by omega)]
  refine ⟨vp_in_nI (by omega) (by omega), vp_in_nI (by omega) (by omega), m_toEnd hV hM hh ?_⟩
  rw [q_X11_min, at_233_15, nI_clamp (show c < 2 ^ 31 by omega), at246 c (by omega), nI_clamp (show D (8 + 4 * D (56 + 7 * h)) < 2 ^ 31 by omega), nI_clamp (show D (8 + 4 * D (56 + 7 * h) + 1) < 2 ^ 31 by omega), hW c _ hc vs.1, hW c _ hc vs.2.1, nI_add, nI_add, nI_min (by omega) (by omega)]
  exact hp
theorem m_between (hV : sp_V D l) (hM : sp_M u 235 D) (hW : fm_W u D) (hg : g < D 2) (hh : h < D 2) (hp : post (nI (sp_bt D g h)) u) : wp_X11_between ms_E0 u 233 (nI g) (nI h) post := by
  have v := hV.2.2.1 g hg
  have vs := hV.2.1 _ v.1
  have v2 := hV.2.2.1 h hh
  have vs2 := hV.2.1 _ v2.1
  have c0 := hV.1.1
  have c1 := hV.1.2.1
  have c2 := hV.1.2.2.1
  have c4 := hV.1.2.2.2.2.1
  have f1 := fc_lt (c := D (8 + 4 * D (56 + 7 * g))) hV hh
  have f2 := fc_lt (c := D (8 + 4 * D (56 + 7 * g) + 1)) hV hh
  unfold sp_bt at hp
  unfold wp_X11_between wp_X11_between_23
  refine pk_eq g h (fun q => ?_) (fun q => ?_)
  · rw [if_pos q] at hp; exact hp
  rw [if_neg q] at hp
  refine m_isShut hV hM hg ?_
  by_cases q1 : D (8 + 4 * D (56 + 7 * g) + 3) = 1
  · rw [if_pos (Or.inl q1)] at hp; rw [if_pos q1]
    exact ⟨fun q => absurd q (by decide), fun _ => hp⟩
  rw [if_neg q1]
  refine ⟨fun _ => m_isShut hV hM hh ?_, fun q => absurd rfl q⟩
  by_cases q2 : D (8 + 4 * D (56 + 7 * h) + 3) = 1
  · rw [if_pos (Or.inr q2)] at hp; rw [if_pos q2]
    exact ⟨fun q => absurd q (by decide), fun _ => hp⟩
  rw [if_neg q2]
  rw [if_neg (by omega)] at hp
  refine ⟨fun _ => m_toStart hV hM hg (m_streetAt hV hM hg ?_), fun q => absurd rfl q⟩
  rw [at_233_8, nI_clamp (show 8 + 4 * D (56 + 7 * g) < 2 ^ 31 by omega), hM _ (show 8 + 4 * D (56 + 7 * g) < 1613 by omega)]
  refine ⟨vp_in_nI (by omega) (by omega), m_fromCrossing hV hM hW vs.1 hh (m_toEnd hV hM hg (m_streetAt hV hM hg ?_))⟩
  rw [show (1 : Int32) = nI 1 from rfl, nI_add, nI_clamp (show 8 + 4 * D (56 + 7 * g) + 1 < 2 ^ 31 by omega), hM _ (show 8 + 4 * D (56 + 7 * g) + 1 < 1613 by omega)]
  refine ⟨vp_in_nI (by omega) (by omega), m_fromCrossing hV hM hW vs.2.1 hh ?_⟩
  rw [q_X11_min, nI_add, nI_add, nI_min (by omega) (by omega)]
  unfold wp_X11_house
  simp only [ixH0, nI_clamp (show 56 + 7 * g < 2 ^ 31 by omega), nI_clamp (show 56 + 7 * h < 2 ^ 31 by omega), hM _ (show 56 + 7 * g < 1613 by omega), hM _ (show 56 + 7 * h < 1613 by omega)]
  refine ⟨vp_in_nI (by omega) (by omega), vp_in_nI (by omega) (by omega), pk_eq (D (56 + 7 * g)) (D (56 + 7 * h)) (fun q3 => ?_) (fun q3 => ?_)⟩
  · rw [if_pos q3] at hp
    refine m_toStart hV hM hg (m_toStart hV hM hh ?_)
    intro v108 e108
    have fin : ∀ z, z = nI (D (56 + 7 * g + 1) - D (56 + 7 * h + 1) + (D (56 + 7 * h + 1) - D (56 + 7 * g + 1))) → wp_X11_between_124 ms_E0 233 (nI g) (nI h) post u z (nI (min (D (56 + 7 * g + 1) + sp_fc D (D (8 + 4 * D (56 + 7 * g))) h) (D (8 + 4 * D (56 + 7 * g) + 2) - D (56 + 7 * g + 1) + sp_fc D (D (8 + 4 * D (56 + 7 * g) + 1)) h))) := by
      intro z hz
      subst hz
      unfold wp_X11_between_124 wp_X11_between_162 wp_X11_house
      simp only [q_X11_min, nI_min (show min (D (56 + 7 * g + 1) + sp_fc D (D (8 + 4 * D (56 + 7 * g))) h) (D (8 + 4 * D (56 + 7 * g) + 2) - D (56 + 7 * g + 1) + sp_fc D (D (8 + 4 * D (56 + 7 * g) + 1)) h) < 2 ^ 31 by omega) (show D (56 + 7 * g + 1) - D (56 + 7 * h + 1) + (D (56 + 7 * h + 1) - D (56 + 7 * g + 1)) < 2 ^ 31 by omega), show (2 : Int32) = nI 2 from rfl, ixH, at_233_8, nI_clamp (show 56 + 7 * g + 2 < 2 ^ 31 by omega), nI_clamp (show 56 + 7 * h + 2 < 2 ^ 31 by omega), hM _ (show 56 + 7 * g + 2 < 1613 by omega), hM _ (show 56 + 7 * h + 2 < 1613 by omega), show Int32.toNatClampNeg 4 = 4 from rfl, hM 4 (by omega), show (0 : Int32) = nI 0 from rfl, nI_add]
      refine ⟨vp_in_nI (by omega) (by omega), vp_in_nI (by omega) (by omega), pk_eq (D (56 + 7 * g + 2)) (D (56 + 7 * h + 2)) (fun q5 => ?_) (fun q5 => ⟨vi 4 1613, ?_⟩)⟩
      · rw [if_pos q5] at hp; exact hp
      · rw [if_neg q5] at hp; exact hp
    have ab := nI_abs (show D (56 + 7 * g + 1) < 2 ^ 30 by omega) (show D (56 + 7 * h + 1) < 2 ^ 30 by omega)
    subst e108
    refine ⟨fun q => fin _ ?_, fun q => fin _ ?_⟩
    · rw [if_pos q] at ab; exact ab
    · rw [if_neg q, Int32.zero_sub] at ab; exact ab
  · rw [if_neg q3] at hp
    exact hp
end PY
/-! the law's cases 7, 8 -/
theorem td_m {x : Nat} (hx : x < 2 ^ 31) : (if nI x < 1000000 then nI x else -1) = sp_td x := by
  unfold sp_td
  rw [show (1000000 : Int32) = nI 1000000 from rfl]
  by_cases h : x < 1000000
  · rw [if_pos h, if_pos (nI_lt (b := 1000000) h (by decide))]
  · rw [if_neg h, if_neg (nI_nlt (b := 1000000) (by omega) hx)]; rfl
theorem fw_KM {u0 u : ms_St} {v : ms_St} (h : sp_KM v u0) (hF : fw_F u0 u) : sp_KM v u := by
  refine sp_KM_tr h ⟨fun a b q => hF.1 a b ?_, fun b => by rw [hF.2]⟩
  unfold sp_Kp sp_Kc at q
  omega
section PZ
variable {u : ms_St} {D : Nat → Nat} {l : List ms_Op} {post : Int32 → ms_St → Prop} {px : String → ms_St → Prop} {g h c : Nat} {a : Int32}
theorem m_distance (hV : sp_V D l) (hM : sp_M u 235 D) (hg : g < D 2) (hh : h < D 2) (hp : ∀ u', sp_KM u u' → ms_I u' 233 0 = 0 → post (sp_td (sp_bt D g h)) u') : wp_X11_distance ms_E0 u 233 (nI g) (nI h) post := by
  have c2 := hV.1.2.2.1
  have b := bt_lt hV hg hh
  unfold wp_X11_distance
  refine noH_ok (D := D) (M_t hM (by decide)) c2 hg rfl ⟨fun _ => noH_ok (D := D) (M_t hM (by decide)) c2 hh rfl ⟨fun _ => m_findWays hV (M_t hM (by decide)) (fun u' hS => ?_), fun q => absurd rfl q⟩, fun q => absurd rfl q⟩
  refine m_between hV (fw_M hS.1 (M_t hM (by decide))) hS.2 hg hh ?_
  rw [q_X11_told, td_m (by omega)]
  exact hp u' (fw_KM KM_0 hS.1) (by rw [hS.1.1 233 0 (by omega)]; rfl)
theorem m_distance_no (hV : sp_V D l) (hM : sp_M u 235 D) {a2 : Int32} (hb : a < 0 ∨ nI (D 2) ≤ a) (hp : post 0 (ms_sI (ms_sI u 233 0 0) 233 0 1)) : wp_X11_distance ms_E0 u 233 a a2 post := by
  have c2 := hV.1.2.2.1
  unfold wp_X11_distance
  exact noH_no (D := D) (M_t hM (by decide)) c2 hb rfl ⟨fun q => absurd q (by decide), fun _ => hp⟩
theorem m_distance_no2 (hV : sp_V D l) (hM : sp_M u 235 D) (hg : g < D 2) (hb : a < 0 ∨ nI (D 2) ≤ a) (hp : post 0 (ms_sI (ms_sI u 233 0 0) 233 0 1)) : wp_X11_distance ms_E0 u 233 (nI g) a post := by
  have c2 := hV.1.2.2.1
  unfold wp_X11_distance
  exact noH_ok (D := D) (M_t hM (by decide)) c2 hg rfl ⟨fun _ => noH_no (D := D) (M_t hM (by decide)) c2 hb rfl ⟨fun q => absurd q (by decide), fun _ => hp⟩, fun q => absurd rfl q⟩
theorem m_distanceFrom (hV : sp_V D l) (hM : sp_M u 235 D) (hc : c < D 0) (hh : h < D 2) (hp : ∀ u', sp_KM u u' → ms_I u' 233 0 = 0 → post (sp_td (sp_fc D c h)) u') : wp_X11_distanceFrom ms_E0 u 233 (nI c) (nI h) post := by
  have c0 := hV.1.1
  have c2 := hV.1.2.2.1
  have b := fc_lt (c := c) hV hh
  unfold wp_X11_distanceFrom wp_X11_distanceFrom_27
  simp only [at_233_8, show Int32.toNatClampNeg 0 = 0 from rfl, I_sI_ne (show 235 ≠ 233 by decide), hM 0 (by omega), q_X11_in]
  rw [if_pos (in_ok (by omega) hc)]
  refine ⟨vi 0 1613, fun q => absurd q (by decide), fun _ => fails_ok rfl ⟨fun _ => noH_ok (D := D) (M_t hM (by decide)) c2 hh rfl ⟨fun _ => m_findWays hV (M_t hM (by decide)) (fun u' hS => ?_), fun q => absurd rfl q⟩, fun q => absurd rfl q⟩⟩
  refine m_fromCrossing hV (fw_M hS.1 (M_t hM (by decide))) hS.2 hc hh ?_
  rw [q_X11_told, td_m (by omega)]
  exact hp u' (fw_KM KM_0 hS.1) (by rw [hS.1.1 233 0 (by omega)]; rfl)
theorem m_distanceFrom_no (hV : sp_V D l) (hM : sp_M u 235 D) {a2 : Int32} (hb : a < 0 ∨ nI (D 0) ≤ a) (hp : post 0 (ms_sI (ms_sI u 233 0 0) 233 0 1)) : wp_X11_distanceFrom ms_E0 u 233 a a2 post := by
  have c0 := hV.1.1
  unfold wp_X11_distanceFrom wp_X11_distanceFrom_27
  simp only [at_233_8, show Int32.toNatClampNeg 0 = 0 from rfl, I_sI_ne (show 235 ≠ 233 by decide), hM 0 (by omega), q_X11_in]
  rw [if_neg (in_no (by omega) hb)]
  exact ⟨vi 0 1613, fun _ => fails_no rfl (by decide) (by decide) ⟨fun q => absurd q (by decide), fun _ => hp⟩, fun q => absurd rfl q⟩
theorem m_distanceFrom_no2 (hV : sp_V D l) (hM : sp_M u 235 D) (hc : c < D 0) (hb : a < 0 ∨ nI (D 2) ≤ a) (hp : post 0 (ms_sI (ms_sI u 233 0 0) 233 0 1)) : wp_X11_distanceFrom ms_E0 u 233 (nI c) a post := by
  have c0 := hV.1.1
  have c2 := hV.1.2.2.1
  unfold wp_X11_distanceFrom wp_X11_distanceFrom_27
  simp only [at_233_8, show Int32.toNatClampNeg 0 = 0 from rfl, I_sI_ne (show 235 ≠ 233 by decide), hM 0 (by omega), q_X11_in]
  rw [if_pos (in_ok (by omega) hc)]
  exact ⟨vi 0 1613, fun q => absurd q (by decide), fun _ => fails_ok rfl ⟨fun _ => noH_no (D := D) (M_t hM (by decide)) c2 hb rfl ⟨fun q => absurd q (by decide), fun _ => hp⟩, fun q => absurd rfl q⟩⟩
/-- the class after its routes are fresh -/
theorem rr_KC {u' : ms_St} (hF : ∀ a b, a ≠ 50 → ¬ (a = 0 ∧ b = 11) → ms_I u' a b = ms_I u a b) : sp_KC u u' := fun a b q => hF a b (by unfold sp_Kp at q; omega) (by unfold sp_Kp at q; omega)
theorem rr_Ca {u' : ms_St} (hF : ∀ a b, a ≠ 50 → ¬ (a = 0 ∧ b = 11) → ms_I u' a b = ms_I u a b) (hW : sp_cw u' D) (hc : sp_Ca u D l) : sp_Ca u' D l := by
  refine ⟨fun _ => hW, fun q => ?_⟩
  rw [hF 0 12 (by omega) (by omega)] at q
  obtain ⟨h1, h2, h3⟩ := hc.2 q
  refine ⟨fun w hw => ⟨?_, fun k hk => ⟨?_, ?_⟩⟩, fun i hi => ?_, ?_⟩
  · rw [hF 54 w (by omega) (by omega)]; exact (h1 w hw).1
  · rw [hF 52 _ (by omega) (by omega)]; exact ((h1 w hw).2 k hk).1
  · rw [hF 53 _ (by omega) (by omega)]; exact ((h1 w hw).2 k hk).2
  · rw [hF 55 _ (by omega) (by omega)]; exact h2 i hi
  · rw [hF 51 _ (by omega) (by omega)]; exact h3
theorem rr_R {u' : ms_St} (hF : ∀ a b, a ≠ 50 → ¬ (a = 0 ∧ b = 11) → ms_I u' a b = ms_I u a b) (hR : sp_R (sp_T u 2) D l) : sp_R (sp_T u' 2) D l := sp_R_eq (fun i b hi => hF _ b (by omega) (by omega)) hR
theorem c_distance (hV : sp_V D l) (hR : sp_R (sp_T u 2) D l) (hc : sp_Ca u D l) (hg : g < D 2) (hh : h < D 2) (hp : ∀ u', sp_KC u u' → sp_Ca u' D l → post (sp_td (sp_bt D g h)) u') : wp_X10_distance ms_E0 u 0 (nI g) (nI h) post px := by
  have c2 := hV.1.2.2.1
  unfold wp_X10_distance
  refine ckH_ok hR.1.2.2.2.2.1 (by omega) hg (ckH_ok hR.1.2.2.2.2.1 (by omega) hh (c_refreshRoutes hV hR hc.1 (fun u' hF hJ hW => ?_)))
  simp only [at_0_8, at_0_3]
  exact c_between hV (rr_R hF hR) hW hg hh (hp u' (rr_KC hF) (rr_Ca hF hW hc))
theorem c_distanceFrom (hV : sp_V D l) (hR : sp_R (sp_T u 2) D l) (hc : sp_Ca u D l) (hg : g < D 0) (hh : h < D 2) (hp : ∀ u', sp_KC u u' → sp_Ca u' D l → post (sp_td (sp_fc D g h)) u') : wp_X10_distanceFrom ms_E0 u 0 (nI g) (nI h) post px := by
  have c0 := hV.1.1
  have c2 := hV.1.2.2.1
  have e : ms_I u 2 0 = nI (D 0) := hR.1.1
  unfold wp_X10_distanceFrom
  rw [at_0_3, e]
  refine ⟨fun q => absurd q (nI_pos (by omega)), fun _ => ⟨fun _ => ckH_ok hR.1.2.2.2.2.1 (by omega) hh (c_refreshRoutes hV hR hc.1 (fun u' hF hJ hW => ?_)), fun q => absurd (nI_lt hg (by omega)) q⟩⟩
  simp only [at_0_8]
  exact c_fromCrossing hV (rr_R hF hR) hW hg hh (hp u' (rr_KC hF) (rr_Ca hF hW hc))
theorem c_distanceFrom_no (hV : sp_V D l) (hR : sp_R (sp_T u 2) D l) {a2 : Int32} (hb : a < 0 ∨ nI (D 0) ≤ a) (hp : px "java/lang/IndexOutOfBoundsException" u) : wp_X10_distanceFrom ms_E0 u 0 a a2 post px := by
  have e : ms_I u 2 0 = nI (D 0) := hR.1.1
  unfold wp_X10_distanceFrom wp_X10_distanceFrom_15
  rw [at_0_3, e]
  refine ⟨fun q => hp, fun q => ⟨fun q2 => ?_, fun _ => hp⟩⟩
  rcases hb with hb | hb
  · exact absurd hb q
  · exact absurd q2 (Int32.not_lt.mpr hb)
end PZ
section PZ2
variable {Ln i : Nat} {xs : Nat → Int32} {k : ms_St → Prop} {u : ms_St}
theorem KC_M {u u' : ms_St} {D : Nat → Nat} {x : Int64} {j : Nat} (h : sp_KC u u') (hM : sp_M u 235 D) : sp_M (ms_sJ u' 529 j x) 235 D := sp_M_eq (fun b => h 235 b (Or.inr (by omega))) hM
theorem p_case_7 (h : sp_Inv u) (hL : Ln ≤ 3072) (hi : i + 6 ≤ Ln) (hk : ∀ u', sp_Inv u' → k u') : wp_case_7 ms_E0 Ln xs 0 233 529 (nI i) k u := by
  obtain ⟨D, l, h0, hc⟩ := h
  have hV := h0.1
  have hM := h0.2.1
  have hR := h0.2.2.1
  have b0 := hV.1.1
  have b2 := hV.1.2.2.1
  have hi1 : vp_in (nI i + 1) Ln := la_in hL hi (j := 1) (by omega)
  have hi2 : vp_in (nI i + 2) Ln := la_in hL hi (j := 2) (by omega)
  have hke : ∀ {v}, sp_KM u v → k v := fun q => hk _ (sp_Inv_q h0 sp_KC_refl hc q)
  unfold wp_case_7 wp_L_distance
  refine ⟨hi1, hi2, ?_⟩
  generalize xs (Int32.toNatClampNeg (nI i + 1)) = a
  generalize xs (Int32.toNatClampNeg (nI i + 2)) = b
  rcases ix2 a (n := D 2) (by omega) with hb | ⟨g, hg, rfl⟩
  · unfold wp_X10_distance
    exact ckH_no hR.1.2.2.2.2.1 (by omega) hb ⟨rfl, hi1, hi2, m_distance_no hV hM hb (en_no rfl (by decide) (hke KM_00))⟩
  · rcases ix2 b (n := D 2) (by omega) with hb | ⟨h, hh, rfl⟩
    · unfold wp_X10_distance
      exact ckH_ok hR.1.2.2.2.2.1 (by omega) hg (ckH_no hR.1.2.2.2.2.1 (by omega) hb ⟨rfl, hi1, hi2, m_distance_no2 hV hM hg hb (en_no rfl (by decide) (hke KM_00))⟩)
    · refine c_distance hV hR hc hg hh (fun u1 h1 hc1 => ⟨in529, hi1, hi2, m_distance hV (KC_M h1 hM) hg hh (fun u2 h2 z => en_ok z ?_ (hk _ (sp_Inv_q h0 (sp_KC_sJ h1) hc1 h2)))⟩)
      rw [h2.2 0]; rfl
theorem p_case_8 (h : sp_Inv u) (hL : Ln ≤ 3072) (hi : i + 6 ≤ Ln) (hk : ∀ u', sp_Inv u' → k u') : wp_case_8 ms_E0 Ln xs 0 233 529 (nI i) k u := by
  obtain ⟨D, l, h0, hc⟩ := h
  have hV := h0.1
  have hM := h0.2.1
  have hR := h0.2.2.1
  have b0 := hV.1.1
  have b2 := hV.1.2.2.1
  have hi1 : vp_in (nI i + 1) Ln := la_in hL hi (j := 1) (by omega)
  have hi2 : vp_in (nI i + 2) Ln := la_in hL hi (j := 2) (by omega)
  have hke : ∀ {v}, sp_KM u v → k v := fun q => hk _ (sp_Inv_q h0 sp_KC_refl hc q)
  unfold wp_case_8 wp_L_distanceFrom
  refine ⟨hi1, hi2, ?_⟩
  generalize xs (Int32.toNatClampNeg (nI i + 1)) = a
  generalize xs (Int32.toNatClampNeg (nI i + 2)) = b
  rcases ix2 a (n := D 0) (by omega) with hb | ⟨g, hg, rfl⟩
  · exact c_distanceFrom_no hV hR hb ⟨rfl, hi1, hi2, m_distanceFrom_no hV hM hb (en_no rfl (by decide) (hke KM_00))⟩
  · rcases ix2 b (n := D 2) (by omega) with hb | ⟨h, hh, rfl⟩
    · unfold wp_X10_distanceFrom
      have e : ms_I u 2 0 = nI (D 0) := hR.1.1
      rw [at_0_3, e]
      exact ⟨fun q => absurd q (nI_pos (by omega)), fun _ => ⟨fun _ => ckH_no hR.1.2.2.2.2.1 (by omega) hb ⟨rfl, hi1, hi2, m_distanceFrom_no2 hV hM hg hb (en_no rfl (by decide) (hke KM_00))⟩, fun q => absurd (nI_lt hg (by omega)) q⟩⟩
    · refine c_distanceFrom hV hR hc hg hh (fun u1 h1 hc1 => ⟨in529, hi1, hi2, m_distanceFrom hV (KC_M h1 hM) hg hh (fun u2 h2 z => en_ok z ?_ (hk _ (sp_Inv_q h0 (sp_KC_sJ h1) hc1 h2)))⟩)
      rw [h2.2 0]; rfl
end PZ2
