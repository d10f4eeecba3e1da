/-! ===== questions about the simulation ===== -/
theorem mz_KM {u0 u : ms_St} {v : ms_St} (h : sp_KM v u0) (hF : mz_F u0 u) : sp_KM v u := by
  refine sp_KM_tr h ⟨fun a b q => hF.1 a b ?_ ?_, fun b => by rw [hF.2 529 (by decide)]⟩
  · unfold sp_Kp sp_Kc at q
    omega
  · unfold sp_Kp sp_Kc at q
    omega
def sp_fa (D : Nat → Nat) (S : Nat → Nat → Nat) : Nat → Nat
  | 0 => 0
  | j + 1 => if 0 < D (168 + 15 * j + 2) ∧ sp_fa D S j < S 0 j then S 0 j else sp_fa D S j
def sp_pe (D : Nat → Nat) (S : Nat → Nat → Nat) : Nat → Nat
  | 0 => 0
  | j + 1 => sp_pe D S j + (if (S 7 0).testBit j then D (56 + 7 * j + 3) else 0)
def ck_k (D : Nat → Nat) (S : Nat → Nat → Nat) (w : Nat) (y : Int64) : Nat → Int64
  | 0 => y
  | k + 1 => 31 * (31 * ck_k D S w y k + (nI (D (168 + 15 * w + 3 + k))).toInt64) + (nI (S 3 (w * 12 + k))).toInt64
def ck_w (D : Nat → Nat) (S : Nat → Nat → Nat) : Nat → Int64
  | 0 => 0
  | j + 1 => ck_k D S j (31 * (31 * ck_w D S j + (nI (D (168 + 15 * j + 2))).toInt64) + (nI (S 0 j)).toInt64) (D (168 + 15 * j + 2))
def ck_h (D : Nat → Nat) (S : Nat → Nat → Nat) (y : Int64) : Nat → Int64
  | 0 => y
  | j + 1 => 31 * (31 * ck_h D S y j + (nI (S 5 j)).toInt64) + (nI (D (56 + 7 * j + 6))).toInt64
def ck_s (D : Nat → Nat) (y : Int64) : Nat → Int64
  | 0 => y
  | j + 1 => 31 * ck_s D y j + (nI (1 - D (8 + 4 * j + 3))).toInt64
def ck_a (D : Nat → Nat) (S : Nat → Nat → Nat) : Int64 := 31 * ck_s D (ck_h D S (ck_w D S (D 3)) (D 2)) (D 1) + (nI (S 7 0)).toInt64
theorem fa_le {D : Nat → Nat} {l : List ms_Op} {S : Nat → Nat → Nat} (hV : sp_V D l) (hS : sm_V D S) : ∀ j, j ≤ D 3 → sp_fa D S j ≤ 14000000
  | 0, _ => by simp [sp_fa]
  | j + 1, h => by
    have a := fa_le hV hS j (by omega)
    have b := (na_lt hV hS (show j < D 3 by omega)).2.2
    unfold sp_fa
    split <;> omega
section QM
variable {u : ms_St} {D : Nat → Nat} {l : List ms_Op} {post : Int32 → ms_St → Prop} {postL : Int64 → ms_St → Prop} {px : String → ms_St → Prop} {w j h : Nat} {a a2 : Int32}
theorem m_result (hV : sp_V D l) (hM : sp_M u 235 D) (hw : w < D 3) (hj : j < D (168 + 15 * w + 2)) (hp : ∀ u', sp_KM u u' → ms_I u' 233 0 = 0 → post (nI (sp_S D l 3 (w * 12 + j))) u') : wp_X11_result ms_E0 u 233 (nI w) (nI j) post := by
  have c3 := hV.1.2.2.2.1
  have l1 := (hV.2.2.2.1 w hw).2.2.1
  unfold wp_X11_result
  refine m_noP hV (M_t hM (by decide)) rfl hw hj ⟨fun _ => m_simulate hV (M_t hM (by decide)) (fun u' hF hR => ?_), fun q => absurd rfl q⟩
  have g := (hR.1 w hw).2.2.2 j (by rw [S_end hV hw]; exact hj)
  rw [at_233_20, show (12 : Int32) = nI 12 from rfl, pk_mul, nI_add, Nat.mul_comm 12 w, nI_clamp (by omega), g.1]
  exact ⟨vp_in_nI (by omega) (by omega), hp u' (mz_KM KM_0 hF) (by rw [hF.1 233 0 (by omega) (by omega)]; rfl)⟩
theorem c_result (hV : sp_V D l) (hT : sp_R (sp_T u 2) D l) (hc : sp_Ca u D l) (hw : w < D 3) (hj : j < D (168 + 15 * w + 2)) (hp : ∀ u', sp_KC u u' → sp_Ca u' D l → post (nI (sp_S D l 3 (w * 12 + j))) u') : wp_X10_result ms_E0 u 0 (nI w) (nI j) post px := by
  have c3 := hV.1.2.2.2.1
  have l1 := (hV.2.2.2.1 w hw).2.2.1
  unfold wp_X10_result
  refine c_ckP hV hT hw hj (c_refreshSimulation hV hT hc (fun u' h1 h2 h3 h4 => ?_))
  have g := (h3.1 w hw).2 j hj
  rw [at_0_9, at_51_0, show (12 : Int32) = nI 12 from rfl, pk_mul, nI_add, nI_clamp (by omega), g.1]
  exact ⟨vp_in_nI (by omega) (by omega), hp u' h1 h2⟩
theorem m_arrival (hV : sp_V D l) (hM : sp_M u 235 D) (hw : w < D 3) (hj : j < D (168 + 15 * w + 2)) (hp : ∀ u', sp_KM u u' → ms_I u' 233 0 = 0 → post (nI (sp_S D l 4 (w * 12 + j))) u') : wp_X11_arrival ms_E0 u 233 (nI w) (nI j) post := by
  have c3 := hV.1.2.2.2.1
  have l1 := (hV.2.2.2.1 w hw).2.2.1
  unfold wp_X11_arrival
  refine m_noP hV (M_t hM (by decide)) rfl hw hj ⟨fun _ => m_simulate hV (M_t hM (by decide)) (fun u' hF hR => ?_), fun q => absurd rfl q⟩
  have g := (hR.1 w hw).2.2.2 j (by rw [S_end hV hw]; exact hj)
  rw [at_233_21, show (12 : Int32) = nI 12 from rfl, pk_mul, nI_add, Nat.mul_comm 12 w, nI_clamp (by omega), g.2]
  exact ⟨vp_in_nI (by omega) (by omega), hp u' (mz_KM KM_0 hF) (by rw [hF.1 233 0 (by omega) (by omega)]; rfl)⟩
theorem c_arrival (hV : sp_V D l) (hT : sp_R (sp_T u 2) D l) (hc : sp_Ca u D l) (hw : w < D 3) (hj : j < D (168 + 15 * w + 2)) (hp : ∀ u', sp_KC u u' → sp_Ca u' D l → post (nI (sp_S D l 4 (w * 12 + j))) u') : wp_X10_arrival ms_E0 u 0 (nI w) (nI j) post px := by
  have c3 := hV.1.2.2.2.1
  have l1 := (hV.2.2.2.1 w hw).2.2.1
  unfold wp_X10_arrival
  refine c_ckP hV hT hw hj (c_refreshSimulation hV hT hc (fun u' h1 h2 h3 h4 => ?_))
  have g := (h3.1 w hw).2 j hj
  rw [at_0_9, at_51_1, show (12 : Int32) = nI 12 from rfl, pk_mul, nI_add, nI_clamp (by omega), g.2]
  exact ⟨vp_in_nI (by omega) (by omega), hp u' h1 h2⟩
theorem m_finish (hV : sp_V D l) (hM : sp_M u 235 D) (hw : w < D 3) (hp : ∀ u', sp_KM u u' → ms_I u' 233 0 = 0 → post (nI (sp_S D l 0 w)) u') : wp_X11_finish ms_E0 u 233 (nI w) post := by
  have c3 := hV.1.2.2.2.1
  unfold wp_X11_finish
  refine noW_ok (D := D) (M_t hM (by decide)) (by omega) hw rfl ⟨fun _ => m_simulate hV (M_t hM (by decide)) (fun u' hF hR => ?_), fun q => absurd rfl q⟩
  rw [at_233_17, nI_clamp (by omega), (hR.1 w hw).1]
  exact ⟨vp_in_nI (by omega) (by omega), hp u' (mz_KM KM_0 hF) (by rw [hF.1 233 0 (by omega) (by omega)]; rfl)⟩
theorem m_finish_no (hV : sp_V D l) (hM : sp_M u 235 D) (hb : a < 0 ∨ nI (D 3) ≤ a) (hp : post 0 (ms_sI (ms_sI u 233 0 0) 233 0 1)) : wp_X11_finish ms_E0 u 233 a post := by
  have c3 := hV.1.2.2.2.1
  unfold wp_X11_finish
  exact noW_no (D := D) (M_t hM (by decide)) (by omega) hb rfl ⟨fun q => absurd q (by decide), fun _ => hp⟩
theorem c_finish (hV : sp_V D l) (hT : sp_R (sp_T u 2) D l) (hc : sp_Ca u D l) (hw : w < D 3) (hp : ∀ u', sp_KC u u' → sp_Ca u' D l → post (nI (sp_S D l 0 w)) u') : wp_X10_finish ms_E0 u 0 (nI w) post px := by
  have c3 := hV.1.2.2.2.1
  unfold wp_X10_finish
  refine ckW_ok hT.1.2.2.2.2.2 (by omega) hw (c_refreshSimulation hV hT hc (fun u' h1 h2 h3 h4 => ?_))
  rw [at_0_9, at_51_2, nI_clamp (by omega), (h3.1 w hw).1]
  exact ⟨vp_in_nI (by omega) (by omega), hp u' h1 h2⟩
theorem m_calls (hV : sp_V D l) (hM : sp_M u 235 D) (hh : h < D 2) (hp : ∀ u', sp_KM u u' → ms_I u' 233 0 = 0 → post (nI (sp_S D l 5 h)) u') : wp_X11_calls ms_E0 u 233 (nI h) post := by
  have c2 := hV.1.2.2.1
  unfold wp_X11_calls
  refine noH_ok (D := D) (M_t hM (by decide)) c2 hh rfl ⟨fun _ => m_simulate hV (M_t hM (by decide)) (fun u' hF hR => ?_), fun q => absurd rfl q⟩
  rw [at_233_22, nI_clamp (by omega), (hR.2.1 h (by omega)).1]
  exact ⟨vp_in_nI (by omega) (by omega), hp u' (mz_KM KM_0 hF) (by rw [hF.1 233 0 (by omega) (by omega)]; rfl)⟩
theorem m_calls_no (hV : sp_V D l) (hM : sp_M u 235 D) (hb : a < 0 ∨ nI (D 2) ≤ a) (hp : post 0 (ms_sI (ms_sI u 233 0 0) 233 0 1)) : wp_X11_calls ms_E0 u 233 a post := by
  unfold wp_X11_calls
  exact noH_no (D := D) (M_t hM (by decide)) hV.1.2.2.1 hb rfl ⟨fun q => absurd q (by decide), fun _ => hp⟩
theorem c_calls (hV : sp_V D l) (hT : sp_R (sp_T u 2) D l) (hc : sp_Ca u D l) (hh : h < D 2) (hp : ∀ u', sp_KC u u' → sp_Ca u' D l → post (nI (sp_S D l 5 h)) u') : wp_X10_calls ms_E0 u 0 (nI h) post px := by
  have c2 := hV.1.2.2.1
  unfold wp_X10_calls
  refine ckH_ok hT.1.2.2.2.2.1 (by omega) hh (c_refreshSimulation hV hT hc (fun u' h1 h2 h3 h4 => ?_))
  rw [at_0_9, at_51_3, nI_clamp (by omega), h3.2.1 h hh]
  exact ⟨vp_in_nI (by omega) (by omega), hp u' h1 h2⟩
theorem m_counted (hV : sp_V D l) (hM : sp_M u 235 D) (hp : ∀ u', sp_KM u u' → post (nI (sp_S D l 7 0)) u') : wp_X11_counted ms_E0 u 233 post := by
  unfold wp_X11_counted
  refine m_simulate hV (M_t hM (by decide)) (fun u' hF hR => ?_)
  have g : ms_I u' 233 24 = _ := hR.2.2
  rw [g]
  exact hp u' (mz_KM KM_0 hF)
theorem c_counted (hV : sp_V D l) (hT : sp_R (sp_T u 2) D l) (hc : sp_Ca u D l) (hp : ∀ u', sp_KC u u' → sp_Ca u' D l → post (nI (sp_S D l 7 0)) u') : wp_X10_counted ms_E0 u 0 post := by
  unfold wp_X10_counted
  refine c_refreshSimulation hV hT hc (fun u' h1 h2 h3 h4 => ?_)
  rw [at_0_9, h3.2.2]
  exact hp u' h1 h2
theorem KC_T {u' : ms_St} (h : sp_KC u u') (hT : sp_R (sp_T u 2) D l) : sp_R (sp_T u' 2) D l := sp_R_eq (fun i b hi => h _ b (Or.inl (Or.inr (Or.inl (by omega))))) hT
theorem mz_M {u' : ms_St} (h : mz_F u u') (hM : sp_M u 235 D) : sp_M u' 235 D := sp_M_eq (fun b => h.1 235 b (by omega) (by omega)) hM
theorem m_finishAll (hV : sp_V D l) (hM : sp_M u 235 D) (hp : ∀ u', sp_KM u u' → post (nI (sp_fa D (sp_S D l) (D 3))) u') : wp_X11_finishAll ms_E0 u 233 post := by
  have c3 := hV.1.2.2.2.1
  unfold wp_X11_finishAll
  refine m_simulate hV (M_t hM (by decide)) (fun u' hF hR => ⟨D 3 + 1, ?_⟩)
  have hM' := mz_M hF (M_t hM (by decide))
  have hp' := hp u' (mz_KM KM_0 hF)
  have st : ∀ m j, j + m = D 3 → wp_X11_finishAll_13 ms_E0 233 post (m + 1) u' (nI (sp_fa D (sp_S D l) j)) (nI j) := by
    intro m
    induction m with
    | zero =>
      intro j hj
      have e : j = D 3 := by omega
      subst e
      unfold wp_X11_finishAll_13
      rw [at_233_8, show Int32.toNatClampNeg 3 = 3 from rfl, hM' 3 (by omega)]
      exact ⟨vi 3 1613, fun _ => hp', fun q => absurd (nI_le (Nat.le_refl _) (by omega)) q⟩
    | succ m ih =>
      intro j hj
      have ih' := ih (j + 1) (by omega)
      have l1 := (hV.2.2.2.1 j (by omega)).2.2.1
      have b1 := fa_le hV (S_V hV) j (by omega)
      have b2 := (na_lt hV (S_V hV) (show j < D 3 by omega)).2.2
      unfold sp_fa at ih'
      unfold wp_X11_finishAll_13 wp_X11_finishAll_54 wp_X11_walker
      dsimp only
      rw [at_233_8, at_233_17, show Int32.toNatClampNeg 3 = 3 from rfl, hM' 3 (by omega), show (2 : Int32) = nI 2 from rfl, ixW, nI_clamp (show 168 + 15 * j + 2 < 2 ^ 31 by omega), hM' _ (show 168 + 15 * j + 2 < 1613 by omega), nI_1, nI_clamp (show j < 2 ^ 31 by omega), (hR.1 j (by omega)).1]
      have vj : vp_in (nI j) 3 := vp_in_nI (by omega) (by omega)
      refine ⟨vi 3 1613, fun q => absurd q (nI_ge (by omega) (by omega)), fun _ => ⟨vp_in_nI (by omega) (by omega), pk_le (D (168 + 15 * j + 2)) 0 (fun q => ?_) (fun q => ⟨vj, pk_le (sp_S D l 0 j) (sp_fa D (sp_S D l) j) (fun q2 => ?_) (fun q2 => ⟨vj, fun v e => ?_⟩)⟩)⟩⟩
      · rw [if_neg (by omega)] at ih'; exact ih'
      · rw [if_neg (by omega)] at ih'; exact ih'
      · subst e; rw [if_pos ⟨by omega, q2⟩] at ih'; exact ih'
  exact st (D 3) 0 (by omega)
theorem c_finishAll (hV : sp_V D l) (hT : sp_R (sp_T u 2) D l) (hc : sp_Ca u D l) (hp : ∀ u', sp_KC u u' → sp_Ca u' D l → post (nI (sp_fa D (sp_S D l) (D 3))) u') : wp_X10_finishAll ms_E0 u 0 post := by
  have c3 := hV.1.2.2.2.1
  unfold wp_X10_finishAll
  refine c_refreshSimulation hV hT hc (fun u' h1 h2 h3 h4 => ⟨D 3 + 1, ?_⟩)
  have hT' := KC_T h1 hT
  have hp' := hp u' h1 h2
  have e0 : ms_I u' 17 0 = nI (D 3) := hT'.1.2.2.2.2.2
  have st : ∀ m j, j + m = D 3 → wp_X10_finishAll_8 ms_E0 0 post (m + 1) u' (nI (sp_fa D (sp_S D l) j)) (nI j) := by
    intro m
    induction m with
    | zero =>
      intro j hj
      have e : j = D 3 := by omega
      subst e
      unfold wp_X10_finishAll_8
      rw [at_0_3, at_2_5, e0]
      exact ⟨fun _ => hp', fun q => absurd (nI_le (Nat.le_refl _) (by omega)) q⟩
    | succ m ih =>
      intro j hj
      have ih' := ih (j + 1) (by omega)
      have l1 := (hV.2.2.2.1 j (by omega)).2.2.1
      have b1 := fa_le hV (S_V hV) j (by omega)
      have b2 := (na_lt hV (S_V hV) (show j < D 3 by omega)).2.2
      have t3 : ms_I u' 20 j = nI (D (168 + 15 * j + 2)) := (hT'.2.2.2 j (by omega)).2.2.1
      unfold sp_fa at ih'
      unfold wp_X10_finishAll_8 wp_X10_finishAll_51
      rw [at_0_3, at_0_9, at_2_5, at_17_3, at_51_2, e0, nI_1, nI_clamp (show j < 2 ^ 31 by omega), t3, (h3.1 j (by omega)).1]
      have vj : vp_in (nI j) 3 := vp_in_nI (by omega) (by omega)
      refine ⟨fun q => absurd q (nI_ge (by omega) (by omega)), fun _ => ⟨vj, pk_le (D (168 + 15 * j + 2)) 0 (fun q => ?_) (fun q => ⟨vj, fun v e => ?_⟩)⟩⟩
      · rw [if_neg (by omega)] at ih'; exact ih'
      · subst e
        by_cases q2 : sp_fa D (sp_S D l) j < sp_S D l 0 j
        · rw [if_pos ⟨by omega, q2⟩] at ih'
          rw [if_pos (nI_lt q2 (by omega))]; exact ih'
        · rw [if_neg (by omega)] at ih'
          rw [if_neg (nI_nlt (by omega) (by omega))]; exact ih'
  exact st (D 3) 0 (by omega)
theorem m_persons (hV : sp_V D l) (hM : sp_M u 235 D) (hp : ∀ u', sp_KM u u' → post (nI (sp_pe D (sp_S D l) (D 2))) u') : wp_X11_persons ms_E0 u 233 post := by
  have c2 := hV.1.2.2.1
  have b7 := (S_V hV).2.2
  unfold wp_X11_persons
  refine m_simulate hV (M_t hM (by decide)) (fun u' hF hR => ⟨D 2 + 1, ?_⟩)
  have hM' := mz_M hF (M_t hM (by decide))
  have hp' := hp u' (mz_KM KM_0 hF)
  have g : ms_I u' 233 24 = nI (sp_S D l 7 0) := hR.2.2
  have st : ∀ m j, j + m = D 2 → wp_X11_persons_13 ms_E0 233 post (m + 1) u' (nI (sp_pe D (sp_S D l) j)) (nI j) := by
    intro m
    induction m with
    | zero =>
      intro j hj
      have e : j = D 2 := by omega
      subst e
      unfold wp_X11_persons_13
      rw [at_233_8, show Int32.toNatClampNeg 2 = 2 from rfl, hM' 2 (by omega)]
      exact ⟨vi 2 1613, fun _ => hp', fun q => absurd (nI_le (Nat.le_refl _) (by omega)) q⟩
    | succ m ih =>
      intro j hj
      have ih' := ih (j + 1) (by omega)
      unfold sp_pe at ih'
      unfold wp_X11_persons_13 wp_X11_persons_51 wp_X11_house
      dsimp only
      rw [at_233_8, show Int32.toNatClampNeg 2 = 2 from rfl, hM' 2 (by omega), g, show (3 : Int32) = nI 3 from rfl, ixH, nI_clamp (show 56 + 7 * j + 3 < 2 ^ 31 by omega), hM' _ (show 56 + 7 * j + 3 < 1613 by omega), nI_1]
      refine ⟨vi 2 1613, fun q => absurd q (nI_ge (by omega) (by omega)), fun _ => bt_1A (by omega) (by omega) (fun q => ⟨vp_in_nI (by omega) (by omega), fun v e => ?_⟩) (fun q v e => ?_)⟩
      · subst e; rw [if_pos q] at ih'; rw [nI_add]; exact ih'
      · subst e; rw [q] at ih'; rw [Int32.add_zero]; exact ih'
  exact st (D 2) 0 (by omega)
theorem c_persons (hV : sp_V D l) (hT : sp_R (sp_T u 2) D l) (hc : sp_Ca u D l) (hp : ∀ u', sp_KC u u' → sp_Ca u' D l → post (nI (sp_pe D (sp_S D l) (D 2))) u') : wp_X10_persons ms_E0 u 0 post := by
  have c2 := hV.1.2.2.1
  have b7 := (S_V hV).2.2
  unfold wp_X10_persons
  refine c_refreshSimulation hV hT hc (fun u' h1 h2 h3 h4 => ⟨D 2 + 1, ?_⟩)
  have hT' := KC_T h1 hT
  have hp' := hp u' h1 h2
  have e0 : ms_I u' 8 0 = nI (D 2) := hT'.1.2.2.2.2.1
  have st : ∀ m j, j + m = D 2 → wp_X10_persons_8 ms_E0 0 post (m + 1) u' (nI (sp_pe D (sp_S D l) j)) (nI j) := by
    intro m
    induction m with
    | zero =>
      intro j hj
      have e : j = D 2 := by omega
      subst e
      unfold wp_X10_persons_8
      rw [at_0_3, at_2_4, e0]
      exact ⟨fun _ => hp', fun q => absurd (nI_le (Nat.le_refl _) (by omega)) q⟩
    | succ m ih =>
      intro j hj
      have ih' := ih (j + 1) (by omega)
      have t4 : ms_I u' 12 j = nI (D (56 + 7 * j + 3)) := (hT'.2.2.1 j (by omega)).2.2.2.1
      unfold sp_pe at ih'
      unfold wp_X10_persons_8 wp_X10_persons_51
      rw [at_0_3, at_0_9, at_2_4, at_8_4, e0, nI_1, h3.2.2]
      refine ⟨fun q => absurd q (nI_ge (by omega) (by omega)), fun _ => q_contains (by omega) (by omega) ?_⟩
      by_cases q : (sp_S D l 7 0).testBit j = true
      · rw [if_pos q] at ih' ⊢
        refine ⟨fun q => absurd q (by decide), fun _ => ⟨vp_in_nI (by omega) (by omega), fun v e => ?_⟩⟩
        subst e
        rw [nI_clamp (show j < 2 ^ 31 by omega), t4, nI_add]; exact ih'
      · rw [if_neg q] at ih' ⊢
        exact ⟨fun _ => ih', fun q => absurd rfl q⟩
  exact st (D 2) 0 (by omega)
theorem ck_1 {y : Int64} {c : Nat} (hc : c ≤ 1) : 31 * y + 1 - (nI c).toInt64 = 31 * y + (nI (1 - c)).toInt64 := by
  rcases (show c = 0 ∨ c = 1 by omega) with e | e
  · subst e
    rw [show (nI 0).toInt64 = 0 from rfl, Int64.sub_zero]
    rfl
  · subst e
    rw [show (nI 1).toInt64 = 1 from rfl, Int64.add_sub_cancel, show (nI (1 - 1)).toInt64 = 0 from rfl, Int64.add_zero]
theorem m_checksum (hV : sp_V D l) (hM : sp_M u 235 D) (hp : ∀ u', sp_KM u u' → postL (ck_a D (sp_S D l)) u') : wp_X11_checksum ms_E0 u 233 postL := by
  have c1 := hV.1.2.1
  have c2 := hV.1.2.2.1
  have c3 := hV.1.2.2.2.1
  unfold wp_X11_checksum
  refine m_simulate hV (M_t hM (by decide)) (fun u' hF hR => ⟨D 3 + 1, ?_⟩)
  have hM' := mz_M hF (M_t hM (by decide))
  have hp' := hp u' (mz_KM KM_0 hF)
  have g7 : ms_I u' 233 24 = nI (sp_S D l 7 0) := hR.2.2
  have k1 : Int32.toNatClampNeg 1 = 1 := rfl
  have k2 : Int32.toNatClampNeg 2 = 2 := rfl
  have k3 : Int32.toNatClampNeg 3 = 3 := rfl
  have sS : ∀ m j, j + m = D 1 → wp_X11_checksum_183 ms_E0 233 postL (m + 1) u' (ck_s D (ck_h D (sp_S D l) (ck_w D (sp_S D l) (D 3)) (D 2)) j) (nI j) := by
    intro m
    induction m with
    | zero =>
      intro j hj
      have e : j = D 1 := by omega
      subst e
      unfold wp_X11_checksum_183
      rw [at_233_8, k1, hM' 1 (by omega), g7]
      exact ⟨vi 1 1613, fun _ => hp', fun q => absurd (nI_le (Nat.le_refl _) (by omega)) q⟩
    | succ m ih =>
      intro j hj
      have ih' := ih (j + 1) (by omega)
      have v := (hV.2.1 j (by omega)).2.2.2.2.2
      unfold ck_s at ih'
      unfold wp_X11_checksum_183 wp_X11_street
      dsimp only
      rw [at_233_8, k1, hM' 1 (by omega), show (3 : Int32) = nI 3 from rfl, ixS, nI_clamp (show 8 + 4 * j + 3 < 2 ^ 31 by omega), hM' _ (show 8 + 4 * j + 3 < 1613 by omega), nI_1]
      refine ⟨vi 1 1613, fun q => absurd q (nI_ge (by omega) (by omega)), fun _ => ⟨vp_in_nI (by omega) (by omega), fun v e => ?_⟩⟩
      rw [ck_1 (by omega)] at e
      subst e
      exact ih'
  have sH : ∀ m j, j + m = D 2 → wp_X11_checksum_131 ms_E0 233 postL (m + 1) u' (ck_h D (sp_S D l) (ck_w D (sp_S D l) (D 3)) j) (nI j) := by
    intro m
    induction m with
    | zero =>
      intro j hj
      have e : j = D 2 := by omega
      subst e
      unfold wp_X11_checksum_131
      rw [at_233_8, k2, hM' 2 (by omega)]
      exact ⟨vi 2 1613, fun _ => ⟨D 1 + 1, sS (D 1) 0 (by omega)⟩, fun q => absurd (nI_le (Nat.le_refl _) (by omega)) q⟩
    | succ m ih =>
      intro j hj
      have ih' := ih (j + 1) (by omega)
      unfold ck_h at ih'
      unfold wp_X11_checksum_131 wp_X11_house
      dsimp only
      rw [at_233_8, at_233_22, k2, hM' 2 (by omega), show (6 : Int32) = nI 6 from rfl, ixH, nI_clamp (show 56 + 7 * j + 6 < 2 ^ 31 by omega), hM' _ (show 56 + 7 * j + 6 < 1613 by omega), nI_1, nI_clamp (show j < 2 ^ 31 by omega), (hR.2.1 j (by omega)).1]
      refine ⟨vi 2 1613, fun q => absurd q (nI_ge (by omega) (by omega)), fun _ => ⟨vp_in_nI (by omega) (by omega), fun v e => ⟨vp_in_nI (by omega) (by omega), fun v2 e2 => ?_⟩⟩⟩
      subst e
      subst e2
      exact ih'
  have sW : ∀ m j, j + m = D 3 → wp_X11_checksum_13 ms_E0 233 postL (m + 1) u' (ck_w D (sp_S D l) j) (nI j) := by
    intro m
    induction m with
    | zero =>
      intro j hj
      have e : j = D 3 := by omega
      subst e
      unfold wp_X11_checksum_13
      rw [at_233_8, k3, hM' 3 (by omega)]
      exact ⟨vi 3 1613, fun _ => ⟨D 2 + 1, sH (D 2) 0 (by omega)⟩, fun q => absurd (nI_le (Nat.le_refl _) (by omega)) q⟩
    | succ m ih =>
      intro j hj
      have ih' := ih (j + 1) (by omega)
      have l1 := (hV.2.2.2.1 j (by omega)).2.2.1
      have se := S_end (l := l) hV (show j < D 3 by omega)
      unfold ck_w at ih'
      unfold wp_X11_checksum_13 wp_X11_walker
      dsimp only
      rw [at_233_8, at_233_17, k3, hM' 3 (by omega), show (2 : Int32) = nI 2 from rfl, ixW, nI_clamp (show 168 + 15 * j + 2 < 2 ^ 31 by omega), hM' _ (show 168 + 15 * j + 2 < 1613 by omega), nI_clamp (show j < 2 ^ 31 by omega), (hR.1 j (by omega)).1]
      refine ⟨vi 3 1613, fun q => absurd q (nI_ge (by omega) (by omega)), fun _ => ⟨vp_in_nI (by omega) (by omega), fun v e => ⟨vp_in_nI (by omega) (by omega), fun v2 e2 => ⟨D (168 + 15 * j + 2) + 1, ?_⟩⟩⟩⟩
      subst e
      have sK : ∀ m2 i, i + m2 = D (168 + 15 * j + 2) → wp_X11_checksum_59 ms_E0 233 postL (wp_X11_checksum_13 ms_E0 233 postL (m + 1)) (m2 + 1) u' (ck_k D (sp_S D l) j v2 i) (nI j) (nI i) := by
        intro m2
        induction m2 with
        | zero =>
          intro i hi
          have e : i = D (168 + 15 * j + 2) := by omega
          subst e
          unfold wp_X11_checksum_59 wp_X11_walker
          dsimp only
          rw [at_233_8, show (2 : Int32) = nI 2 from rfl, ixW, nI_clamp (show 168 + 15 * j + 2 < 2 ^ 31 by omega), hM' _ (show 168 + 15 * j + 2 < 1613 by omega), nI_1]
          rw [← e2] at ih'
          exact ⟨vp_in_nI (by omega) (by omega), fun _ => ih', fun q => absurd (nI_le (Nat.le_refl _) (by omega)) q⟩
        | succ m2 ih2 =>
          intro i hi
          have ih2' := ih2 (i + 1) (by omega)
          have g := ((hR.1 j (by omega)).2.2.2 i (by omega)).1
          unfold ck_k at ih2'
          unfold wp_X11_checksum_59 wp_X11_walker
          dsimp only
          rw [at_233_8, at_233_20, show (2 : Int32) = nI 2 from rfl, show (3 : Int32) = nI 3 from rfl, ixW, ixW, nI_add, nI_clamp (show 168 + 15 * j + 2 < 2 ^ 31 by omega), hM' _ (show 168 + 15 * j + 2 < 1613 by omega), nI_clamp (show 168 + 15 * j + 3 + i < 2 ^ 31 by omega), hM' _ (show 168 + 15 * j + 3 + i < 1613 by omega), show (12 : Int32) = nI 12 from rfl, pk_mul, nI_add, Nat.mul_comm 12 j, nI_clamp (show j * 12 + i < 2 ^ 31 by omega), g, nI_1 i]
          refine ⟨vp_in_nI (by omega) (by omega), fun q => absurd q (nI_ge (by omega) (by omega)), fun _ => ⟨vp_in_nI (by omega) (by omega), fun v9 e9 => ⟨vp_in_nI (by omega) (by omega), fun v10 e10 => ?_⟩⟩⟩
          subst e9
          subst e10
          exact ih2'
      exact sK _ 0 (by omega)
  exact sW (D 3) 0 (by omega)
theorem c_checksum (hV : sp_V D l) (hT : sp_R (sp_T u 2) D l) (hc : sp_Ca u D l) (hp : ∀ u', sp_KC u u' → sp_Ca u' D l → postL (ck_a D (sp_S D l)) u') : wp_X10_checksum ms_E0 u 0 postL := by
  have c1 := hV.1.2.1
  have c2 := hV.1.2.2.1
  have c3 := hV.1.2.2.2.1
  unfold wp_X10_checksum
  refine c_refreshSimulation hV hT hc (fun u' h1 h2 h3 h4 => ⟨D 3 + 1, ?_⟩)
  have hT' := KC_T h1 hT
  have hp' := hp u' h1 h2
  have e1 : ms_I u' 3 0 = nI (D 1) := hT'.1.2.2.2.1
  have e2 : ms_I u' 8 0 = nI (D 2) := hT'.1.2.2.2.2.1
  have e3 : ms_I u' 17 0 = nI (D 3) := hT'.1.2.2.2.2.2
  have sS : ∀ m j, j + m = D 1 → wp_X10_checksum_198 ms_E0 0 postL (m + 1) u' (ck_s D (ck_h D (sp_S D l) (ck_w D (sp_S D l) (D 3)) (D 2)) j) (nI j) := by
    intro m
    induction m with
    | zero =>
      intro j hj
      have e : j = D 1 := by omega
      subst e
      unfold wp_X10_checksum_198
      rw [at_0_3, at_0_9, at_2_3, e1, h3.2.2]
      exact ⟨fun _ => hp', fun q => absurd (nI_le (Nat.le_refl _) (by omega)) q⟩
    | succ m ih =>
      intro j hj
      have ih' := ih (j + 1) (by omega)
      have v := (hV.2.1 j (by omega)).2.2.2.2.2
      have t : ms_I u' 7 j = nI (1 - D (8 + 4 * j + 3)) := (hT'.2.1 j (by omega)).2.2.2
      unfold ck_s at ih'
      unfold wp_X10_checksum_198 wp_X10_checksum_237
      rw [at_0_3, at_0_9, at_2_3, at_3_4, e1, nI_clamp (show j < 2 ^ 31 by omega), t, nI_1]
      refine ⟨fun q => absurd q (nI_ge (by omega) (by omega)), fun _ => ⟨vp_in_nI (by omega) (by omega), pk_eq (1 - D (8 + 4 * j + 3)) 0 (fun q v e => ?_) (fun q v e => ?_)⟩⟩
      · subst e; rw [q] at ih'; exact ih'
      · subst e; rw [show 1 - D (8 + 4 * j + 3) = 1 by omega] at ih'; exact ih'
  have sH : ∀ m j, j + m = D 2 → wp_X10_checksum_131 ms_E0 0 postL (m + 1) u' (ck_h D (sp_S D l) (ck_w D (sp_S D l) (D 3)) j) (nI j) := by
    intro m
    induction m with
    | zero =>
      intro j hj
      have e : j = D 2 := by omega
      subst e
      unfold wp_X10_checksum_131
      rw [at_0_3, at_2_4, e2]
      exact ⟨fun _ => ⟨D 1 + 1, sS (D 1) 0 (by omega)⟩, fun q => absurd (nI_le (Nat.le_refl _) (by omega)) q⟩
    | succ m ih =>
      intro j hj
      have ih' := ih (j + 1) (by omega)
      have v := (hV.2.2.1 j (by omega)).2.2.2.2.2.2
      have t : ms_I u' 15 j = nI (D (56 + 7 * j + 6)) := (hT'.2.2.1 j (by omega)).2.2.2.2.2.2.1
      have vj : vp_in (nI j) 16 := vp_in_nI (by omega) (by omega)
      unfold ck_h at ih'
      unfold wp_X10_checksum_131 wp_X10_checksum_187
      rw [at_0_3, at_0_9, at_2_4, at_8_7, at_51_3, e2, nI_clamp (show j < 2 ^ 31 by omega), t, nI_1, h3.2.1 j (by omega)]
      refine ⟨fun q => absurd q (nI_ge (by omega) (by omega)), fun _ => ⟨vj, fun v1 e1 => ⟨vj, pk_eq (D (56 + 7 * j + 6)) 0 (fun q v e => ?_) (fun q v e => ?_)⟩⟩⟩
      · subst e1; subst e; rw [q] at ih'; exact ih'
      · subst e1; subst e; rw [show D (56 + 7 * j + 6) = 1 by omega] at ih'; exact ih'
  have sW : ∀ m j, j + m = D 3 → wp_X10_checksum_8 ms_E0 0 postL (m + 1) u' (ck_w D (sp_S D l) j) (nI j) := by
    intro m
    induction m with
    | zero =>
      intro j hj
      have e : j = D 3 := by omega
      subst e
      unfold wp_X10_checksum_8
      rw [at_0_3, at_2_5, e3]
      exact ⟨fun _ => ⟨D 2 + 1, sH (D 2) 0 (by omega)⟩, fun q => absurd (nI_le (Nat.le_refl _) (by omega)) q⟩
    | succ m ih =>
      intro j hj
      have ih' := ih (j + 1) (by omega)
      have l1 := (hV.2.2.2.1 j (by omega)).2.2.1
      have t3 : ms_I u' 20 j = nI (D (168 + 15 * j + 2)) := (hT'.2.2.2 j (by omega)).2.2.1
      have vj : vp_in (nI j) 3 := vp_in_nI (by omega) (by omega)
      unfold ck_w at ih'
      unfold wp_X10_checksum_8
      rw [at_0_3, at_0_9, at_2_5, at_17_3, at_51_2, e3, nI_clamp (show j < 2 ^ 31 by omega), t3, (h3.1 j (by omega)).1]
      refine ⟨fun q => absurd q (nI_ge (by omega) (by omega)), fun _ => ⟨vj, fun v34 e34 v45 e45 => ⟨vj, fun v62 e62 => ⟨D (168 + 15 * j + 2) + 1, ?_⟩⟩⟩⟩
      subst e34
      subst e45
      have sK : ∀ m2 i, i + m2 = D (168 + 15 * j + 2) → wp_X10_checksum_66 ms_E0 0 postL (wp_X10_checksum_8 ms_E0 0 postL (m + 1)) (m2 + 1) u' (ck_k D (sp_S D l) j v62 i) (nI j) (nI (D (168 + 15 * j + 2))) (nI i) := by
        intro m2
        induction m2 with
        | zero =>
          intro i hi
          have e : i = D (168 + 15 * j + 2) := by omega
          subst e
          unfold wp_X10_checksum_66
          rw [nI_1]
          rw [← e62] at ih'
          exact ⟨fun _ => ih', fun q => absurd (nI_le (Nat.le_refl _) (by omega)) q⟩
        | succ m2 ih2 =>
          intro i hi
          have ih2' := ih2 (i + 1) (by omega)
          have g := ((h3.1 j (by omega)).2 i (by omega)).1
          unfold ck_k at ih2'
          unfold wp_X10_checksum_66
          rw [at_0_3, at_0_9, at_2_5, at_51_0, show (12 : Int32) = nI 12 from rfl, pk_mul, nI_add, nI_clamp (show j * 12 + i < 2 ^ 31 by omega), nI_1 i]
          refine ⟨fun q => absurd q (nI_ge (by omega) (by omega)), fun _ => c_plannedHouse hV hT' (by omega) (by omega) (fun v93 e93 => ⟨vp_in_nI (by omega) (by omega), fun v116 e116 => ?_⟩)⟩
          rw [g] at e116
          subst e93
          subst e116
          exact ih2'
      exact sK _ 0 (by omega)
  exact sW (D 3) 0 (by omega)
end QM
section QC
variable {Ln i : Nat} {xs : Nat → Int32} {k : ms_St → Prop} {u : ms_St}
theorem KC_M' {u u' : ms_St} {D : Nat → Nat} (h : sp_KC u u') (hM : sp_M u 235 D) : sp_M u' 235 D := sp_M_eq (fun b => h 235 b (Or.inr (by omega))) hM
theorem p_case_16 (h : sp_Inv u) (hL : Ln ≤ 3072) (hi : i + 6 ≤ Ln) (hk : ∀ u', sp_Inv u' → k u') : wp_case_16 ms_E0 Ln xs 0 233 529 (nI i) k u := by
  obtain ⟨D, l, h0, hc⟩ := h
  have hV := h0.1
  have hM := h0.2.1
  have hR := h0.2.2.1
  have b2 := hV.1.2.2.1
  have b3 := hV.1.2.2.2.1
  have hi1 : vp_in (nI i + 1) Ln := la_in hL hi (j := 1) (by omega)
  have hi2 : vp_in (nI i + 2) Ln := la_in hL hi (j := 2) (by omega)
  have hke : ∀ {v}, sp_KM u v → k v := fun q => hk _ (sp_Inv_q h0 sp_KC_refl hc q)
  unfold wp_case_16 wp_L_result
  refine ⟨hi1, hi2, ?_⟩
  generalize xs (Int32.toNatClampNeg (nI i + 1)) = a
  generalize xs (Int32.toNatClampNeg (nI i + 2)) = b
  rcases ix2 a (n := D 3) (by omega) with hb | ⟨w, hw, rfl⟩
  · unfold wp_X10_result
    refine c_ckP_no hV hR hb ⟨rfl, hi1, hi2, ?_⟩
    unfold wp_X11_result
    exact m_noP_no hV (M_t hM (by decide)) rfl hb ⟨fun q => absurd q (by decide), fun _ => en_no rfl (by decide) (hke KM_00)⟩
  · have b4 := (hV.2.2.2.1 w hw).2.2.1
    rcases ix2 b (n := D (168 + 15 * w + 2)) (by omega) with hb | ⟨j, hj, rfl⟩
    · unfold wp_X10_result
      refine c_ckP_no2 hV hR hw hb ⟨rfl, hi1, hi2, ?_⟩
      unfold wp_X11_result
      exact m_noP_no2 hV (M_t hM (by decide)) rfl hw hb ⟨fun q => absurd q (by decide), fun _ => en_no rfl (by decide) (hke KM_00)⟩
    · refine c_result hV hR hc hw hj (fun u1 h1 hc1 => ⟨in529, hi1, hi2, m_result hV (KC_M h1 hM) hw hj (fun u2 h2 z => en_ok z ?_ (hk _ (sp_Inv_q h0 (sp_KC_sJ h1) hc1 h2)))⟩)
      rw [h2.2 0]; rfl
theorem p_case_17 (h : sp_Inv u) (hL : Ln ≤ 3072) (hi : i + 6 ≤ Ln) (hk : ∀ u', sp_Inv u' → k u') : wp_case_17 ms_E0 Ln xs 0 233 529 (nI i) k u := by
  obtain ⟨D, l, h0, hc⟩ := h
  have hV := h0.1
  have hM := h0.2.1
  have hR := h0.2.2.1
  have b2 := hV.1.2.2.1
  have b3 := hV.1.2.2.2.1
  have hi1 : vp_in (nI i + 1) Ln := la_in hL hi (j := 1) (by omega)
  have hi2 : vp_in (nI i + 2) Ln := la_in hL hi (j := 2) (by omega)
  have hke : ∀ {v}, sp_KM u v → k v := fun q => hk _ (sp_Inv_q h0 sp_KC_refl hc q)
  unfold wp_case_17 wp_L_arrival
  refine ⟨hi1, hi2, ?_⟩
  generalize xs (Int32.toNatClampNeg (nI i + 1)) = a
  generalize xs (Int32.toNatClampNeg (nI i + 2)) = b
  rcases ix2 a (n := D 3) (by omega) with hb | ⟨w, hw, rfl⟩
  · unfold wp_X10_arrival
    refine c_ckP_no hV hR hb ⟨rfl, hi1, hi2, ?_⟩
    unfold wp_X11_arrival
    exact m_noP_no hV (M_t hM (by decide)) rfl hb ⟨fun q => absurd q (by decide), fun _ => en_no rfl (by decide) (hke KM_00)⟩
  · have b4 := (hV.2.2.2.1 w hw).2.2.1
    rcases ix2 b (n := D (168 + 15 * w + 2)) (by omega) with hb | ⟨j, hj, rfl⟩
    · unfold wp_X10_arrival
      refine c_ckP_no2 hV hR hw hb ⟨rfl, hi1, hi2, ?_⟩
      unfold wp_X11_arrival
      exact m_noP_no2 hV (M_t hM (by decide)) rfl hw hb ⟨fun q => absurd q (by decide), fun _ => en_no rfl (by decide) (hke KM_00)⟩
    · refine c_arrival hV hR hc hw hj (fun u1 h1 hc1 => ⟨in529, hi1, hi2, m_arrival hV (KC_M h1 hM) hw hj (fun u2 h2 z => en_ok z ?_ (hk _ (sp_Inv_q h0 (sp_KC_sJ h1) hc1 h2)))⟩)
      rw [h2.2 0]; rfl
theorem p_case_18 (h : sp_Inv u) (hL : Ln ≤ 3072) (hi : i + 6 ≤ Ln) (hk : ∀ u', sp_Inv u' → k u') : wp_case_18 ms_E0 Ln xs 0 233 529 (nI i) k u := by
  obtain ⟨D, l, h0, hc⟩ := h
  have hV := h0.1
  have hM := h0.2.1
  have hR := h0.2.2.1
  have b2 := hV.1.2.2.1
  have b3 := hV.1.2.2.2.1
  have hi1 : vp_in (nI i + 1) Ln := la_in hL hi (j := 1) (by omega)
  have hi2 : vp_in (nI i + 2) Ln := la_in hL hi (j := 2) (by omega)
  have hke : ∀ {v}, sp_KM u v → k v := fun q => hk _ (sp_Inv_q h0 sp_KC_refl hc q)
  unfold wp_case_18 wp_L_finish
  refine ⟨hi1, ?_⟩
  generalize xs (Int32.toNatClampNeg (nI i + 1)) = a
  rcases ix2 a (n := D 3) (by omega) with hb | ⟨w, hw, rfl⟩
  · unfold wp_X10_finish
    exact ckW_no hR.1.2.2.2.2.2 (by omega) hb ⟨rfl, hi1, m_finish_no hV hM hb (en_no rfl (by decide) (hke KM_00))⟩
  · refine c_finish hV hR hc hw (fun u1 h1 hc1 => ⟨in529, hi1, m_finish hV (KC_M h1 hM) hw (fun u2 h2 z => en_ok z ?_ (hk _ (sp_Inv_q h0 (sp_KC_sJ h1) hc1 h2)))⟩)
    rw [h2.2 0]; rfl
theorem p_case_22 (h : sp_Inv u) (hL : Ln ≤ 3072) (hi : i + 6 ≤ Ln) (hk : ∀ u', sp_Inv u' → k u') : wp_case_22 ms_E0 Ln xs 0 233 529 (nI i) k u := by
  obtain ⟨D, l, h0, hc⟩ := h
  have hV := h0.1
  have hM := h0.2.1
  have hR := h0.2.2.1
  have b2 := hV.1.2.2.1
  have b3 := hV.1.2.2.2.1
  have hi1 : vp_in (nI i + 1) Ln := la_in hL hi (j := 1) (by omega)
  have hi2 : vp_in (nI i + 2) Ln := la_in hL hi (j := 2) (by omega)
  have hke : ∀ {v}, sp_KM u v → k v := fun q => hk _ (sp_Inv_q h0 sp_KC_refl hc q)
  unfold wp_case_22 wp_L_calls
  refine ⟨hi1, ?_⟩
  generalize xs (Int32.toNatClampNeg (nI i + 1)) = a
  rcases ix2 a (n := D 2) (by omega) with hb | ⟨w, hw, rfl⟩
  · unfold wp_X10_calls
    exact ckH_no hR.1.2.2.2.2.1 (by omega) hb ⟨rfl, hi1, m_calls_no hV hM hb (en_no rfl (by decide) (hke KM_00))⟩
  · refine c_calls hV hR hc hw (fun u1 h1 hc1 => ⟨in529, hi1, m_calls hV (KC_M h1 hM) hw (fun u2 h2 z => en_ok z ?_ (hk _ (sp_Inv_q h0 (sp_KC_sJ h1) hc1 h2)))⟩)
    rw [h2.2 0]; rfl
theorem p_case_19 {x4 : Int32} (h : sp_Inv u) (hk : ∀ u', sp_Inv u' → k u') : wp_case_19 ms_E0 Ln xs 0 233 529 x4 k u := by
  obtain ⟨D, l, h0, hc⟩ := h
  have hV := h0.1
  have hM := h0.2.1
  have hR := h0.2.2.1
  have b2 := hV.1.2.2.1
  have b3 := hV.1.2.2.2.1
  unfold wp_case_19
  exact c_finishAll hV hR hc (fun u1 h1 hc1 => m_finishAll hV (KC_M' h1 hM) (fun u2 h2 => ⟨fun _ => hk _ (sp_Inv_q h0 h1 hc1 h2), fun q => q rfl⟩))
theorem p_case_20 {x4 : Int32} (h : sp_Inv u) (hk : ∀ u', sp_Inv u' → k u') : wp_case_20 ms_E0 Ln xs 0 233 529 x4 k u := by
  obtain ⟨D, l, h0, hc⟩ := h
  have hV := h0.1
  have hM := h0.2.1
  have hR := h0.2.2.1
  have b2 := hV.1.2.2.1
  have b3 := hV.1.2.2.2.1
  unfold wp_case_20
  exact c_counted hV hR hc (fun u1 h1 hc1 => m_counted hV (KC_M' h1 hM) (fun u2 h2 => ⟨fun _ => hk _ (sp_Inv_q h0 h1 hc1 h2), fun q => q rfl⟩))
theorem p_case_21 {x4 : Int32} (h : sp_Inv u) (hk : ∀ u', sp_Inv u' → k u') : wp_case_21 ms_E0 Ln xs 0 233 529 x4 k u := by
  obtain ⟨D, l, h0, hc⟩ := h
  have hV := h0.1
  have hM := h0.2.1
  have hR := h0.2.2.1
  have b2 := hV.1.2.2.1
  have b3 := hV.1.2.2.2.1
  unfold wp_case_21
  exact c_persons hV hR hc (fun u1 h1 hc1 => m_persons hV (KC_M' h1 hM) (fun u2 h2 => ⟨fun _ => hk _ (sp_Inv_q h0 h1 hc1 h2), fun q => q rfl⟩))
theorem p_case_33 {x4 : Int32} (h : sp_Inv u) (hk : ∀ u', sp_Inv u' → k u') : wp_case_33 ms_E0 Ln xs 0 233 529 x4 k u := by
  obtain ⟨D, l, h0, hc⟩ := h
  have hV := h0.1
  have hM := h0.2.1
  have hR := h0.2.2.1
  have b2 := hV.1.2.2.1
  have b3 := hV.1.2.2.2.1
  unfold wp_case_33
  exact c_checksum hV hR hc (fun u1 h1 hc1 => m_checksum hV (KC_M' h1 hM) (fun u2 h2 => ⟨fun _ => hk _ (sp_Inv_q h0 h1 hc1 h2), fun q => q ((lg_cmp_0 _ _).mpr rfl)⟩))
end QC
