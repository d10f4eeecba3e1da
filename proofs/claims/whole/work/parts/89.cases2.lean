/-! ===== hours, dogs, streets, undo ===== -/
section CI
variable {u : ms_St} {D : Nat → Nat} {l : List ms_Op} {n q : Nat} {P : Nat → Nat → Nat} {Q : Nat → List ms_Op} {w h s f t g : Nat} {post : Int32 → ms_St → Prop} {px : String → ms_St → Prop} {a a2 a3 : Int32}
theorem R_h2 {D' : Nat → Nat} {T T' : Nat → Nat → Int32} (hV : sp_V D l) (hR : sp_R T D l) (e : ∀ x, x < 56 ∨ 168 ≤ x → D' x = D x) (eT : ∀ i y, i ≤ 19 → i ≠ 11 ∧ i ≠ 12 ∧ i ≠ 13 → T' i y = T i y) (hh : ∀ h, h < D 2 → D' (56 + 7 * h) = D (56 + 7 * h) ∧ D' (56 + 7 * h + 1) = D (56 + 7 * h + 1) ∧ D' (56 + 7 * h + 2) = D (56 + 7 * h + 2) ∧ D' (56 + 7 * h + 3) = D (56 + 7 * h + 3) ∧ T' 11 h = nI (D' (56 + 7 * h + 4)) ∧ T' 12 h = nI (D' (56 + 7 * h + 5)) ∧ T' 13 h = nI (D' (56 + 7 * h + 6))) : sp_R T' D' l := by
  refine sp_R_eq (T := fun i y => if i ≤ 19 then T' i y else T i y) (fun i b hi => by rw [if_pos (by omega)]) ?_
  refine R_h hV hR e (fun i y hi => ?_) (fun v hv => ?_)
  · by_cases q : i ≤ 19
    · rw [if_pos q, eT i y q hi]
    · rw [if_neg q]
  · rw [if_pos (by omega), if_pos (by omega), if_pos (by omega)]
    exact hh v hv
theorem R_s2 {D' : Nat → Nat} {T T' : Nat → Nat → Int32} (hR : sp_R T D l) (e : ∀ x, x < 8 ∨ 56 ≤ x → D' x = D x) (eT : ∀ i y, i ≤ 19 → i ≠ 5 → T' i y = T i y) (hs : ∀ s, s < D 1 → D' (8 + 4 * s) = D (8 + 4 * s) ∧ D' (8 + 4 * s + 1) = D (8 + 4 * s + 1) ∧ D' (8 + 4 * s + 2) = D (8 + 4 * s + 2) ∧ T' 5 s = nI (1 - D' (8 + 4 * s + 3))) : sp_R T' D' l := by
  refine sp_R_eq (T := fun i y => if i ≤ 19 then T' i y else T i y) (fun i b hi => by rw [if_pos (by omega)]) ?_
  refine R_s hR e (fun i y hi => ?_) (fun v hv => ?_)
  · by_cases q : i ≤ 19
    · rw [if_pos q, eT i y q hi]
    · rw [if_neg q]
  · rw [if_pos (by omega)]
    exact hs v hv
def sh_D (D : Nat → Nat) (h f t : Nat) : Nat → Nat := sp_u (sp_u D (56 + 7 * h + 4) f) (56 + 7 * h + 5) t
theorem sh_f {x : Nat} (h1 : x ≠ 56 + 7 * h + 4) (h2 : x ≠ 56 + 7 * h + 5) : sh_D D h f t x = D x := by unfold sh_D; rw [u_at, if_neg h2, u_at, if_neg h1]
theorem sh_4 : sh_D D h f t (56 + 7 * h + 4) = f := by unfold sh_D; rw [u_at, if_neg (by omega), u_at, if_pos rfl]
theorem sh_5 : sh_D D h f t (56 + 7 * h + 5) = t := if_pos rfl
theorem sh_V (hV : sp_V D l) (hh : h < D 2) (hf : f < t) (ht : t ≤ 1440) : sp_V (sh_D D h f t) l := by
  have c2 := hV.1.2.2.1
  refine V_h hV (fun x hx => sh_f (by omega) (by omega)) (fun v hv => ?_)
  have g := hV.2.2.1 v hv
  rw [sh_f (x := 56 + 7 * v) (by omega) (by omega), sh_f (x := 56 + 7 * v + 1) (by omega) (by omega), sh_f (x := 56 + 7 * v + 2) (by omega) (by omega), sh_f (x := 56 + 7 * v + 3) (by omega) (by omega), sh_f (x := 56 + 7 * v + 6) (by omega) (by omega)]
  by_cases e : v = h
  · subst e
    rw [sh_4, sh_5]
    exact ⟨g.1, g.2.1, g.2.2.1, g.2.2.2.1, hf, ht, g.2.2.2.2.2.2⟩
  · rw [sh_f (x := 56 + 7 * v + 4) (by omega) (by omega), sh_f (x := 56 + 7 * v + 5) (by omega) (by omega)]
    exact g
theorem sh_R {T T' : Nat → Nat → Int32} (hV : sp_V D l) (hR : sp_R T D l) (hh : h < D 2) (eT : ∀ i y, i ≤ 19 → i ≠ 11 ∧ i ≠ 12 → T' i y = T i y) (e11 : ∀ v, T' 11 v = if v = h then nI f else T 11 v) (e12 : ∀ v, T' 12 v = if v = h then nI t else T 12 v) : sp_R T' (sh_D D h f t) l := by
  have c2 := hV.1.2.2.1
  refine R_h2 hV hR (fun x hx => sh_f (by omega) (by omega)) (fun i y hi hi2 => eT i y hi (by omega)) (fun v hv => ?_)
  have g := hR.2.2.1 v hv
  refine ⟨sh_f (by omega) (by omega), sh_f (by omega) (by omega), sh_f (by omega) (by omega), sh_f (by omega) (by omega), ?_, ?_, ?_⟩
  · rw [e11]
    by_cases e : v = h
    · rw [e, if_pos rfl, sh_4]
    · rw [if_neg e, sh_f (by omega) (by omega)]; exact g.2.2.2.2.1
  · rw [e12]
    by_cases e : v = h
    · rw [e, if_pos rfl, sh_5]
    · rw [if_neg e, sh_f (by omega) (by omega)]; exact g.2.2.2.2.2.1
  · rw [eT 13 v (by omega) (by omega), sh_f (by omega) (by omega)]; exact g.2.2.2.2.2.2.1
theorem KC_C {u1 u2 : ms_St} (h : ch_C u u1) (hK : sp_KC u1 u2) : ch_C u u2 := fun a b q => (hK a b (by unfold sp_Kp; omega)).trans (h a b q)
theorem c_setHours (hV : sp_V D l) (hT : sp_R (sp_T u 2) D l) (hP : sp_PC u n q P Q) (hh : h < D 2) (hf : f < t) (ht : t ≤ 1440) (hp : ∀ u', ch_P u u' D (sh_D D h f t) l n P Q → post (nI (sp_pc 16 (sp_S (sh_D D h f t) l 7 0))) u') : wp_X10_setHours ms_E0 u 0 (nI h) (nI f) (nI t) post px := by
  have c2 := hV.1.2.2.1
  have vh : vp_in (nI h) 16 := vp_in_nI (by omega) (by omega)
  have hV' : sp_V (sh_D D h f t) l := sh_V hV hh hf ht
  unfold wp_X10_setHours
  rw [at_0_3, at_2_4, at_8_5, at_8_6, at_0_9, nI_clamp (by omega)]
  refine ckH_ok hT.1.2.2.2.2.1 (by omega) hh ⟨fun q => absurd q (nI_pos (by omega)), fun _ => ⟨fun q => absurd q (nI_ge (b := 1440) (by omega) (by decide)), fun _ => ⟨fun q => absurd q (nI_ge hf (by omega)), fun _ => ⟨fun _ => ?_, fun q => absurd (nI_le (b := 1440) ht (by decide)) q⟩⟩⟩⟩
  refine c_beginChange hV hT hP (fun u1 q1 hF hP1 => ⟨vh, vh, fun w67 e67 => ?_⟩)
  have k1 : ∀ x y, (2 ≤ x ∧ x ≤ 22) → ms_I u1 x y = ms_I u x y := fun x y hx => hF.1 x y (by omega) (by omega)
  have hC : ch_C u w67 := by rw [e67]; exact ch_C_w (ch_C_w (bc_ch hF) (by omega)) (by omega)
  have hR' : sp_R (sp_T w67 2) (sh_D D h f t) l := by
    subst e67
    refine sh_R (T := sp_T u 2) hV hT hh (fun i y hi hi2 => ?_) (fun v => ?_) (fun v => ?_)
    · show ms_I _ (2 + i) y = ms_I u (2 + i) y
      rw [I_sI, if_neg (by omega), I_sI, if_neg (by omega)]
      exact k1 _ y (by omega)
    · show ms_I _ 13 v = if v = h then _ else ms_I u 13 v
      rw [I_sI, if_neg (by omega), I_sI, k1 13 v (by omega)]
      by_cases e : v = h
      · rw [if_pos ⟨rfl, e⟩, if_pos e]
      · rw [if_neg (by omega), if_neg e]
    · show ms_I _ 14 v = if v = h then _ else ms_I u 14 v
      rw [I_sI, I_sI, k1 14 v (by omega)]
      by_cases e : v = h
      · rw [if_pos ⟨rfl, e⟩, if_pos e]
      · rw [if_neg (by omega), if_neg (by omega), if_neg e]
  have hP2 : sp_PC w67 (pu_n n) q1 (pu_P n P D) (pu_P n Q l) := by
    rw [e67]; exact PC_eq hP1 (fun x y hx => by rw [I_sI, if_neg (by omega), I_sI, if_neg (by omega)])
  have z1 : ms_I w67 0 11 = 0 := by rw [e67, I_sI, if_neg (by omega), I_sI, if_neg (by omega)]; exact hF.2.2.1
  have z2 : ms_I w67 0 12 = 0 := by rw [e67, I_sI, if_neg (by omega), I_sI, if_neg (by omega)]; exact hF.2.2.2
  refine c_refreshSimulation hV' hR' (Ca_none z1 z2) (fun u2 hK hCa hcs hJ => ?_)
  rw [hcs.2.2]
  refine J_bitCount (S_V hV').2.2 (hp u2 ⟨KC_C hC hK, hCa, KC_T hK hR', q1, PC_eq hP2 (fun x y hx => hK x y (Or.inl ?_))⟩)
  unfold sp_Kp
  omega
theorem c_setHours_no2 (hV : sp_V D l) (hT : sp_R (sp_T u 2) D l) (hh : h < D 2) (hb : ¬ (0 ≤ a2.toInt ∧ a2.toInt < a3.toInt ∧ a3.toInt ≤ 1440)) (hp : px "java/lang/IllegalArgumentException" u) : wp_X10_setHours ms_E0 u 0 (nI h) a2 a3 post px := by
  have c2 := hV.1.2.2.1
  unfold wp_X10_setHours
  refine ckH_ok hT.1.2.2.2.2.1 (by omega) hh ⟨fun _ => hp, fun q1 => ⟨fun _ => hp, fun q2 => ⟨fun _ => hp, fun q3 => ⟨fun q4 => absurd ?_ hb, fun _ => hp⟩⟩⟩⟩
  rw [Int32.lt_iff_toInt_lt, show (0 : Int32).toInt = 0 from rfl] at q1
  rw [Int32.le_iff_toInt_le] at q3 q4
  rw [show (1440 : Int32).toInt = 1440 from rfl] at q4
  omega
theorem m_setHours (hV : sp_V D l) (hM : sp_M u 235 D) (hn : n ≤ 8) (hP : sp_PM u n P) (hh : h < D 2) (hf : f < t) (ht : t ≤ 1440) (hp : ∀ u', ch_Q u u' D (sh_D D h f t) n P → post (nI (sp_pc 16 (sp_S (sh_D D h f t) l 7 0))) u') : wp_X11_setHours ms_E0 u 233 (nI h) (nI f) (nI t) post := by
  have c2 := hV.1.2.2.1
  have hV' : sp_V (sh_D D h f t) l := sh_V hV hh hf ht
  have hM0 : sp_M (ms_sI u 233 0 0) 235 D := M_t hM (by decide)
  unfold wp_X11_setHours wp_X11_setHours_43 wp_X11_house
  refine noH_ok (D := D) hM0 c2 hh rfl ⟨fun _ => ?_, fun q => absurd rfl q⟩
  rw [q_X11_in, if_pos ⟨nI_pos' (by omega), nI_le (b := 1439) (by omega) (by decide)⟩]
  refine ⟨fun q => absurd q (by decide), fun _ => ?_⟩
  rw [q_X11_in, nI_1, if_pos ⟨nI_le (by omega) (by omega), nI_le (b := 1440) ht (by decide)⟩]
  refine ⟨fun q => absurd q (by decide), fun _ => fails_ok rfl ⟨fun _ => m_remember hM0 hn (PM_0 hn hP) (fun u1 hF hP1 => ?_), fun q => absurd rfl q⟩⟩
  dsimp only
  have Q1 := Q_rm hF hM hP1
  rw [show (56 : Int32) + 7 * nI h + 4 = nI (56 + 7 * h + 4) from ixH h 4, show (56 : Int32) + 7 * nI h + 5 = nI (56 + 7 * h + 5) from ixH h 5, at_233_8, nI_clamp (show 56 + 7 * h + 4 < 2 ^ 31 by omega), nI_clamp (show 56 + 7 * h + 5 < 2 ^ 31 by omega)]
  have Q2 : ch_Q u (ms_sI (ms_sI u1 235 (56 + 7 * h + 4) (nI f)) 235 (56 + 7 * h + 5) (nI t)) D (sh_D D h f t) n P := Q_w (Q_w Q1 hn) hn
  refine ⟨vp_in_nI (by omega) (by omega), vp_in_nI (by omega) (by omega), m_simulate hV' Q2.2.1 (fun u2 hz hR => ?_)⟩
  have e24 : ms_I u2 233 24 = nI (sp_S (sh_D D h f t) l 7 0) := hR.2.2
  rw [e24]
  refine m_size (S_V hV').2.2 (hp u2 ⟨ch_M_t Q2.1 ⟨fun x y hx => hz.1 x y (by omega) (by omega), fun b => by rw [hz.2 529 (by decide)]⟩, mz_M hz Q2.2.1, PM_eq (pu_le hn) Q2.2.2.1 (fun x y hx => hz.1 x y (by omega) (by omega)), ?_⟩)
  rw [hz.1 233 0 (by omega) (by omega)]
  exact Q2.2.2.2
theorem m_setHours_no (hV : sp_V D l) (hM : sp_M u 235 D) (hb : a < 0 ∨ nI (D 2) ≤ a) (hp : post 0 (ms_sI (ms_sI u 233 0 0) 233 0 1)) : wp_X11_setHours ms_E0 u 233 a a2 a3 post := by
  unfold wp_X11_setHours
  exact noH_no (D := D) (M_t hM (by decide)) hV.1.2.2.1 hb rfl ⟨fun q => absurd q (by decide), fun _ => hp⟩
theorem m_setHours_no2 (hV : sp_V D l) (hM : sp_M u 235 D) (hh : h < D 2) (hb : ¬ (0 ≤ a2.toInt ∧ a2.toInt < a3.toInt ∧ a3.toInt ≤ 1440)) (hp : post 0 (ms_sI (ms_sI u 233 0 0) 233 0 2)) : wp_X11_setHours ms_E0 u 233 (nI h) a2 a3 post := by
  have hM0 : sp_M (ms_sI u 233 0 0) 235 D := M_t hM (by decide)
  unfold wp_X11_setHours wp_X11_setHours_38 wp_X11_setHours_43
  refine noH_ok (D := D) hM0 hV.1.2.2.1 hh rfl ⟨fun _ => ?_, fun q => absurd rfl q⟩
  have ff : wp_X11_fails ms_E0 (ms_sI u 233 0 0) 233 1 2 (fun r44 u44 => (r44 = 0 → wp_X11_remember ms_E0 u44 233 (fun u53 => wp_X11_house ms_E0 u53 (nI h) (fun r61 u61 => vp_in (r61 + 4) 1613 ∧ (wp_X11_house ms_E0 (ms_sI u61 (ms_at ms_E0 233 8) (Int32.toNatClampNeg (r61 + 4)) a2) (nI h) (fun r73 u73 => vp_in (r73 + 5) 1613 ∧ (wp_X11_simulate ms_E0 (ms_sI u73 (ms_at ms_E0 233 8) (Int32.toNatClampNeg (r73 + 5)) a3) 233 (fun u81 => wp_X11_size ms_E0 u81 (ms_I u81 233 24) (fun r88 u88 => post r88 u88)))))))) ∧ (¬ r44 = 0 → wp_X11_setHours_50 ms_E0 233 (nI h) a2 a3 post u44)) := fails_no rfl (by decide) (by decide) ⟨fun q => absurd q (by decide), fun _ => hp⟩
  rw [q_X11_in]
  by_cases c : 0 ≤ a2 ∧ a2 ≤ 1439
  · rw [if_pos c]
    refine ⟨fun q => absurd q (by decide), fun _ => ?_⟩
    rw [Int32.le_iff_toInt_le, Int32.le_iff_toInt_le, show (0 : Int32).toInt = 0 from rfl, show (1439 : Int32).toInt = 1439 from rfl] at c
    obtain ⟨x, hx, rfl⟩ : ∃ x : Nat, x < 1440 ∧ a2 = nI x := by
      rcases ix2 a2 (n := 1440) (by omega) with q | q
      · rw [Int32.lt_iff_toInt_lt, Int32.le_iff_toInt_le, nI_toInt (by omega), show (0 : Int32).toInt = 0 from rfl] at q
        omega
      · exact q
    rw [q_X11_in, if_neg]
    · exact ⟨fun _ => ff, fun q => absurd rfl q⟩
    · rw [nI_1, Int32.le_iff_toInt_le, Int32.le_iff_toInt_le, nI_toInt (by omega), show (1440 : Int32).toInt = 1440 from rfl]
      rw [nI_toInt (by omega)] at hb
      omega
  · rw [if_neg c]
    exact ⟨fun _ => ff, fun q => absurd rfl q⟩
/-! dogs -/
def sd_D (D : Nat → Nat) (h g : Nat) : Nat → Nat := sp_u D (56 + 7 * h + 6) g
theorem sd_f {x : Nat} (h1 : x ≠ 56 + 7 * h + 6) : sd_D D h g x = D x := if_neg h1
theorem sd_6 : sd_D D h g (56 + 7 * h + 6) = g := if_pos rfl
theorem sd_V (hV : sp_V D l) (hh : h < D 2) (hg : g ≤ 1) : sp_V (sd_D D h g) l := by
  have c2 := hV.1.2.2.1
  refine V_h hV (fun x hx => sd_f (by omega)) (fun v hv => ?_)
  have r := hV.2.2.1 v hv
  rw [sd_f (x := 56 + 7 * v) (by omega), sd_f (x := 56 + 7 * v + 1) (by omega), sd_f (x := 56 + 7 * v + 2) (by omega), sd_f (x := 56 + 7 * v + 3) (by omega), sd_f (x := 56 + 7 * v + 4) (by omega), sd_f (x := 56 + 7 * v + 5) (by omega)]
  by_cases e : v = h
  · subst e
    rw [sd_6]
    exact ⟨r.1, r.2.1, r.2.2.1, r.2.2.2.1, r.2.2.2.2.1, r.2.2.2.2.2.1, hg⟩
  · rw [sd_f (x := 56 + 7 * v + 6) (by omega)]
    exact r
theorem sd_R {T T' : Nat → Nat → Int32} (hV : sp_V D l) (hR : sp_R T D l) (hh : h < D 2) (eT : ∀ i y, i ≤ 19 → i ≠ 13 → T' i y = T i y) (e13 : ∀ v, T' 13 v = if v = h then nI g else T 13 v) : sp_R T' (sd_D D h g) l := by
  have c2 := hV.1.2.2.1
  refine R_h2 hV hR (fun x hx => sd_f (by omega)) (fun i y hi hi2 => eT i y hi (by omega)) (fun v hv => ?_)
  have r := hR.2.2.1 v hv
  refine ⟨sd_f (by omega), sd_f (by omega), sd_f (by omega), sd_f (by omega), ?_, ?_, ?_⟩
  · rw [eT 11 v (by omega) (by omega), sd_f (by omega)]; exact r.2.2.2.2.1
  · rw [eT 12 v (by omega) (by omega), sd_f (by omega)]; exact r.2.2.2.2.2.1
  · rw [e13]
    by_cases e : v = h
    · rw [e, if_pos rfl, sd_6]
    · rw [if_neg e, sd_f (by omega)]; exact r.2.2.2.2.2.2.1
theorem c_setDog (hV : sp_V D l) (hT : sp_R (sp_T u 2) D l) (hP : sp_PC u n q P Q) (hh : h < D 2) (hg : g ≤ 1) (hp : ∀ u', ch_P u u' D (sd_D D h g) l n P Q → post (nI (D (56 + 7 * h + 6))) u') : wp_X10_setDog ms_E0 u 0 (nI h) (nI g) post px := by
  have c2 := hV.1.2.2.1
  have vh : vp_in (nI h) 16 := vp_in_nI (by omega) (by omega)
  have e : ms_I u 15 h = nI (D (56 + 7 * h + 6)) := (hT.2.2.1 h hh).2.2.2.2.2.2.1
  unfold wp_X10_setDog
  rw [at_0_3, at_2_4, at_8_7, nI_clamp (by omega), nar01 hg]
  refine ckH_ok hT.1.2.2.2.2.1 (by omega) hh (c_beginChange hV hT hP (fun u1 q1 hF hP1 => ⟨vh, fun v21 e21 => ⟨vh, fun w34 e34 => ?_⟩⟩))
  have k1 : ∀ x y, (2 ≤ x ∧ x ≤ 22) → ms_I u1 x y = ms_I u x y := fun x y hx => hF.1 x y (by omega) (by omega)
  rw [k1 15 h (by omega), e] at e21
  subst e21
  subst e34
  refine ⟨nI01 (hV.2.2.1 h hh).2.2.2.2.2.2, hp _ ⟨ch_C_w (bc_ch hF) (by omega), Ca_none ?_ ?_, sd_R (T := sp_T u 2) hV hT hh (fun i y hi hi2 => ?_) (fun v => ?_), q1, PC_eq hP1 (fun x y hx => ?_)⟩⟩
  · rw [I_sI, if_neg (by omega)]; exact hF.2.2.1
  · rw [I_sI, if_neg (by omega)]; exact hF.2.2.2
  · show ms_I _ (2 + i) y = ms_I u (2 + i) y
    rw [I_sI, if_neg (by omega), k1 _ y (by omega)]
  · show ms_I _ 15 v = if v = h then _ else ms_I u 15 v
    rw [I_sI, k1 15 v (by omega)]
    by_cases e : v = h
    · rw [if_pos ⟨rfl, e⟩, if_pos e]
    · rw [if_neg (by omega), if_neg e]
  · rw [I_sI, if_neg (by omega)]
theorem m_setDog (hV : sp_V D l) (hM : sp_M u 235 D) (hn : n ≤ 8) (hP : sp_PM u n P) (hh : h < D 2) (hg : g ≤ 1) (hp : ∀ u', ch_Q u u' D (sd_D D h g) n P → post (nI (D (56 + 7 * h + 6))) u') : wp_X11_setDog ms_E0 u 233 (nI h) (nI g) post := by
  have c2 := hV.1.2.2.1
  have v6 := (hV.2.2.1 h hh).2.2.2.2.2.2
  have hM0 : sp_M (ms_sI u 233 0 0) 235 D := M_t hM (by decide)
  have vi6 : vp_in (nI (56 + 7 * h + 6)) 1613 := vp_in_nI (by omega) (by omega)
  unfold wp_X11_setDog wp_X11_setDog_40 wp_X11_setDog_61 wp_X11_house
  refine noH_ok (D := D) hM0 c2 hh rfl ⟨fun _ => m_remember hM0 hn (PM_0 hn hP) (fun u1 hF hP1 => ?_), fun q => absurd rfl q⟩
  dsimp only
  have Q1 := Q_rm hF hM hP1
  rw [show (56 : Int32) + 7 * nI h + 6 = nI (56 + 7 * h + 6) from ixH h 6, at_233_8, nI_clamp (show 56 + 7 * h + 6 < 2 ^ 31 by omega), Q1.2.1 _ (show 56 + 7 * h + 6 < 1613 by omega)]
  have fin : ∀ z : Int32, z = nI g → post (nI (D (56 + 7 * h + 6))) (ms_sI u1 235 (56 + 7 * h + 6) z) := fun z e => by subst e; exact hp _ (Q_w Q1 hn)
  refine ⟨vi6, pk_eq (D (56 + 7 * h + 6)) 1 (fun q => ?_) (fun q => ?_)⟩
  · rw [q] at fin
    exact pk_eq g 0 (fun q2 => ⟨vi6, Or.inr rfl, fin 0 (by rw [q2]; rfl)⟩) (fun q2 => ⟨vi6, Or.inr rfl, fin 1 (by rw [show g = 1 by omega]; rfl)⟩)
  · rw [show D (56 + 7 * h + 6) = 0 by omega] at fin
    exact pk_eq g 0 (fun q2 => ⟨vi6, Or.inl rfl, fin 0 (by rw [q2]; rfl)⟩) (fun q2 => ⟨vi6, Or.inl rfl, fin 1 (by rw [show g = 1 by omega]; rfl)⟩)
theorem m_setDog_no (hV : sp_V D l) (hM : sp_M u 235 D) (hb : a < 0 ∨ nI (D 2) ≤ a) (hp : post 0 (ms_sI (ms_sI u 233 0 0) 233 0 1)) : wp_X11_setDog ms_E0 u 233 a a2 post := by
  unfold wp_X11_setDog
  exact noH_no (D := D) (M_t hM (by decide)) hV.1.2.2.1 hb rfl ⟨fun q => absurd q (by decide), fun _ => hp⟩
/-! streets -/
def so_D (D : Nat → Nat) (s g : Nat) : Nat → Nat := sp_u D (8 + 4 * s + 3) (1 - g)
theorem so_f {x : Nat} (h1 : x ≠ 8 + 4 * s + 3) : so_D D s g x = D x := if_neg h1
theorem so_3 : so_D D s g (8 + 4 * s + 3) = 1 - g := if_pos rfl
theorem so_V (hV : sp_V D l) (hs : s < D 1) : sp_V (so_D D s g) l := by
  have c1 := hV.1.2.1
  refine V_s hV (fun x hx => so_f (by omega)) (fun v hv => ⟨so_f (by omega), so_f (by omega), so_f (by omega), ?_⟩)
  by_cases e : v = s
  · subst e
    rw [so_3]
    omega
  · rw [so_f (by omega)]
    exact (hV.2.1 v hv).2.2.2.2.2
theorem so_R {T T' : Nat → Nat → Int32} (hV : sp_V D l) (hR : sp_R T D l) (hs : s < D 1) (hg : g ≤ 1) (eT : ∀ i y, i ≤ 19 → i ≠ 5 → T' i y = T i y) (e5 : ∀ v, T' 5 v = if v = s then nI g else T 5 v) : sp_R T' (so_D D s g) l := by
  have c1 := hV.1.2.1
  refine R_s2 hR (fun x hx => so_f (by omega)) eT (fun v hv => ⟨so_f (by omega), so_f (by omega), so_f (by omega), ?_⟩)
  rw [e5]
  by_cases e : v = s
  · rw [e, if_pos rfl, so_3, show 1 - (1 - g) = g by omega]
  · rw [if_neg e, so_f (by omega)]
    exact (hR.2.1 v hv).2.2.2
theorem c_setOpen (hV : sp_V D l) (hT : sp_R (sp_T u 2) D l) (hP : sp_PC u n q P Q) (hs : s < D 1) (hg : g ≤ 1) (hp : ∀ u', ch_P u u' D (so_D D s g) l n P Q → post (nI (1 - D (8 + 4 * s + 3))) u') : wp_X10_setOpen ms_E0 u 0 (nI s) (nI g) post px := by
  have c1 := hV.1.2.1
  have vh : vp_in (nI s) 12 := vp_in_nI (by omega) (by omega)
  have e : ms_I u 7 s = nI (1 - D (8 + 4 * s + 3)) := (hT.2.1 s hs).2.2.2
  unfold wp_X10_setOpen
  rw [at_0_3, at_2_3, at_3_4, nI_clamp (by omega), nar01 hg]
  refine ckS_ok hT.1.2.2.2.1 (by omega) hs (c_beginChange hV hT hP (fun u1 q1 hF hP1 => ⟨vh, fun v21 e21 => ⟨vh, fun w34 e34 => ?_⟩⟩))
  have k1 : ∀ x y, (2 ≤ x ∧ x ≤ 22) → ms_I u1 x y = ms_I u x y := fun x y hx => hF.1 x y (by omega) (by omega)
  rw [k1 7 s (by omega), e] at e21
  subst e21
  subst e34
  refine ⟨nI01 (by omega), hp _ ⟨ch_C_w (bc_ch hF) (by omega), Ca_none ?_ ?_, so_R (T := sp_T u 2) hV hT hs hg (fun i y hi hi2 => ?_) (fun v => ?_), q1, PC_eq hP1 (fun x y hx => ?_)⟩⟩
  · rw [I_sI, if_neg (by omega)]; exact hF.2.2.1
  · rw [I_sI, if_neg (by omega)]; exact hF.2.2.2
  · show ms_I _ (2 + i) y = ms_I u (2 + i) y
    rw [I_sI, if_neg (by omega), k1 _ y (by omega)]
  · show ms_I _ 7 v = if v = s then _ else ms_I u 7 v
    rw [I_sI, k1 7 v (by omega)]
    by_cases e : v = s
    · rw [if_pos ⟨rfl, e⟩, if_pos e]
    · rw [if_neg (by omega), if_neg e]
  · rw [I_sI, if_neg (by omega)]
theorem m_setOpen (hV : sp_V D l) (hM : sp_M u 235 D) (hn : n ≤ 8) (hP : sp_PM u n P) (hs : s < D 1) (hg : g ≤ 1) (hp : ∀ u', ch_Q u u' D (so_D D s g) n P → post (nI (1 - D (8 + 4 * s + 3))) u') : wp_X11_setOpen ms_E0 u 233 (nI s) (nI g) post := by
  have c1 := hV.1.2.1
  have v3 := (hV.2.1 s hs).2.2.2.2.2
  have hM0 : sp_M (ms_sI u 233 0 0) 235 D := M_t hM (by decide)
  have vi3 : vp_in (nI (8 + 4 * s + 3)) 1613 := vp_in_nI (by omega) (by omega)
  unfold wp_X11_setOpen wp_X11_setOpen_38 wp_X11_setOpen_58 wp_X11_street
  refine noS_ok (D := D) hM0 (by omega) hs rfl ⟨fun _ => m_remember hM0 hn (PM_0 hn hP) (fun u1 hF hP1 => ?_), fun q => absurd rfl q⟩
  dsimp only
  have Q1 := Q_rm hF hM hP1
  rw [show (8 : Int32) + 4 * nI s + 3 = nI (8 + 4 * s + 3) from ixS s 3, at_233_8, nI_clamp (show 8 + 4 * s + 3 < 2 ^ 31 by omega), Q1.2.1 _ (show 8 + 4 * s + 3 < 1613 by omega)]
  have fin : ∀ z : Int32, z = nI (1 - g) → post (nI (1 - D (8 + 4 * s + 3))) (ms_sI u1 235 (8 + 4 * s + 3) z) := fun z e => by subst e; exact hp _ (Q_w Q1 hn)
  refine ⟨vi3, pk_eq (D (8 + 4 * s + 3)) 0 (fun q => ?_) (fun q => ?_)⟩
  · rw [q] at fin
    exact pk_eq g 0 (fun q2 => ⟨vi3, Or.inr rfl, fin 1 (by rw [q2]; rfl)⟩) (fun q2 => ⟨vi3, Or.inr rfl, fin 0 (by rw [show g = 1 by omega]; rfl)⟩)
  · rw [show 1 - D (8 + 4 * s + 3) = 0 by omega] at fin
    exact pk_eq g 0 (fun q2 => ⟨vi3, Or.inl rfl, fin 1 (by rw [q2]; rfl)⟩) (fun q2 => ⟨vi3, Or.inl rfl, fin 0 (by rw [show g = 1 by omega]; rfl)⟩)
theorem m_setOpen_no (hV : sp_V D l) (hM : sp_M u 235 D) (hb : a < 0 ∨ nI (D 1) ≤ a) (hp : post 0 (ms_sI (ms_sI u 233 0 0) 233 0 1)) : wp_X11_setOpen ms_E0 u 233 a a2 post := by
  have c1 := hV.1.2.1
  unfold wp_X11_setOpen
  exact noS_no (D := D) (M_t hM (by decide)) (by omega) hb rfl ⟨fun q => absurd q (by decide), fun _ => hp⟩
/-! undo -/
theorem c_undo {m : Nat} (hP : sp_PC u (m + 1) q P Q) (hV : sp_V (P m) (Q m)) (hp : ∀ u', ch_C u u' → ms_I u' 0 11 = 0 → ms_I u' 0 12 = 0 → sp_R (sp_T u' 2) (P m) (Q m) → sp_PC u' m q P Q → post (nI m) u') : wp_X10_undo ms_E0 u 0 post := by
  obtain ⟨hn, hq, e5, e6, hR⟩ := hP
  have a6 : ms_I u 0 6 - 1 = nI m := by rw [e6, nI_pred]
  have b5 : ms_I (ms_sI u 0 6 (nI m)) 0 5 = nI q := by rw [I_sI, if_neg (by omega)]; exact e5
  have b6 : ms_I (ms_sI u 0 6 (nI m)) 0 6 = nI m := by rw [I_sI, if_pos ⟨rfl, rfl⟩]
  unfold wp_X10_undo wp_X10_forgetAnswers
  rw [a6, b5, b6, rem8 (by omega) (by omega), nI_clamp (by omega), at_0_4, at_0_3, at22 _ (Nat.mod_lt _ (by omega)), e6]
  refine ⟨fun _ => ⟨vp_in_nI (Nat.mod_lt _ (by omega)) (by omega), c_copyFrom tn_2 (tn_p _ (Nat.mod_lt _ (by omega))) (Or.inl (by omega)) (fun u1 k1 j1 cp => ?_)⟩, fun q => absurd (nI_lt (a := 0) (by omega) (by omega)) q⟩
  have f6 : ms_I (ms_sI (ms_sI u1 0 11 0) 0 12 0) 0 6 = nI m := by rw [I_sI, if_neg (by omega), I_sI, if_neg (by omega), k1 0 6 (by omega)]; exact b6
  have kk : ∀ x y, ¬ (x = 0 ∧ (y = 11 ∨ y = 12)) → ms_I (ms_sI (ms_sI u1 0 11 0) 0 12 0) x y = ms_I u1 x y := fun x y hx => by rw [I_sI, if_neg (by omega), I_sI, if_neg (by omega)]
  have k2 : ∀ x y, ¬ (2 ≤ x ∧ x < 22) → ¬ (x = 0 ∧ y = 6) → ms_I u1 x y = ms_I u x y := fun x y hx hy => by rw [k1 x y (by omega), I_sI, if_neg hy]
  dsimp only
  rw [f6]
  refine hp _ (fun a b q => ?_) ?_ ?_ (sp_R_eq (fun i b hi => kk _ b (by omega)) (sp_R_cp hV (sp_R_eq (fun i b hi => ?_) (hR m (by omega))) cp)) ⟨by omega, hq, ?_, f6, fun j hj => sp_R_eq (fun i b hi => ?_) (hR j (by omega))⟩
  · rw [kk a b (by omega), k2 a b (by omega) (by omega)]
  · rw [I_sI, if_neg (by omega), I_sI, if_pos ⟨rfl, rfl⟩]
  · rw [I_sI, if_pos ⟨rfl, rfl⟩]
  · show ms_I _ (73 + 20 * ((q + m) % 8) + i) b = ms_I u (73 + 20 * ((q + m) % 8) + i) b
    rw [I_sI, if_neg (by omega)]
  · rw [kk 0 5 (by omega), k2 0 5 (by omega) (by omega)]; exact e5
  · show ms_I _ (73 + 20 * ((q + j) % 8) + i) b = ms_I u (73 + 20 * ((q + j) % 8) + i) b
    rw [kk _ b (by omega), k2 _ b (by omega) (by omega)]
theorem m_undo {m : Nat} (hm : m < 8) (hP : sp_PM u (m + 1) P) (hp : ∀ u', ch_M u u' → sp_M u' 235 (P m) → sp_PM u' m P → post (nI m) u') : wp_X11_undo ms_E0 u 233 post := by
  obtain ⟨e, hR⟩ := hP
  have a11 : ms_I (ms_sI u 233 0 0) 233 11 = nI (m + 1) := by rw [I_sI, if_neg (by omega)]; exact e
  have b11 : ms_I (ms_sI (ms_sI u 233 0 0) 233 11 (nI m)) 233 11 = nI m := by rw [I_sI, if_pos ⟨rfl, rfl⟩]
  unfold wp_X11_undo
  rw [a11, nI_pred, b11, nI_clamp (by omega), at_233_10, at_233_8, at237 m hm]
  refine ⟨fun q => absurd q (nI_ne0 (by omega) (by omega)), fun _ => ⟨vp_in_nI hm (by omega), m_copy (n238 m hm) n235 (by omega) (fun u1 k1 j1 c1 => ?_)⟩⟩
  have kk : ∀ x y, x ≠ 235 → ¬ (x = 233 ∧ (y = 0 ∨ y = 11)) → ms_I u1 x y = ms_I u x y := fun x y hx hy => by rw [k1 x y hx, I_sI, if_neg (by omega), I_sI, if_neg (by omega)]
  have f11 : ms_I u1 233 11 = nI m := by rw [k1 233 11 (by omega)]; exact b11
  rw [f11]
  refine hp u1 ⟨fun a b q => kk a b (by omega) (by omega), fun b => by rw [j1]; rfl⟩ (fun k hk => ?_) ⟨f11, fun j hj => sp_M_eq (fun b => kk _ b (by omega) (by omega)) (hR j (by omega))⟩
  rw [c1 k hk, I_sI, if_neg (by omega), I_sI, if_neg (by omega)]
  exact hR m (by omega) k hk
end CI
