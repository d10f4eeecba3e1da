/-! ===== the law's cases: changes ===== -/
def ch_P (u u' : ms_St) (D D' : Nat → Nat) (l : List ms_Op) (n : Nat) (P : Nat → Nat → Nat) (Q : Nat → List ms_Op) : Prop := ch_C u u' ∧ sp_Ca u' D' l ∧ sp_R (sp_T u' 2) D' l ∧ ∃ q', sp_PC u' (pu_n n) q' (pu_P n P D) (pu_P n Q l)
def ch_Q (u u' : ms_St) (D D' : Nat → Nat) (n : Nat) (P : Nat → Nat → Nat) : Prop := ch_M u u' ∧ sp_M u' 235 D' ∧ sp_PM u' (pu_n n) (pu_P n P D) ∧ ms_I u' 233 0 = 0
theorem ch_fin {u u1 u2 : ms_St} {x : Int64} {D D' : Nat → Nat} {l : List ms_Op} {n : Nat} {P : Nat → Nat → Nat} {Q : Nat → List ms_Op} (h0 : sp_I0 u D l) (hV' : sp_V D' l) (hn : n ≤ 8) (hPV : ∀ j, j < n → sp_V (P j) (Q j)) (h1 : ch_P u u1 D D' l n P Q) (h2 : ch_Q (ms_sJ u1 529 0 x) u2 D D' n P) : sp_Inv u2 := by
  obtain ⟨hC, hCa, hT, q', hPC⟩ := h1
  obtain ⟨hM, hM', hPM, _⟩ := h2
  exact sp_Inv_ch (u1 := ms_sJ u1 529 0 x) h0 hC hM hV' hT hM' hPC hPM (pu_V hn hPV h0.1) hCa
section CH
variable {u : ms_St} {D : Nat → Nat} {l : List ms_Op} {n q : Nat} {P : Nat → Nat → Nat} {Q : Nat → List ms_Op} {w h s : Nat} {post : Int32 → ms_St → Prop} {px : String → ms_St → Prop} {a a2 a3 : Int32}
theorem PM_0 (hn : n ≤ 8) (h : sp_PM u n P) {x : Int32} : sp_PM (ms_sI u 233 0 x) n P := PM_eq hn h (fun a b q => by rw [I_sI, if_neg (by omega)])
theorem Q_rm {u1 : ms_St} (hF : rm_F (ms_sI u 233 0 0) u1) (hM : sp_M u 235 D) (hP1 : sp_PM u1 (pu_n n) (pu_P n P D)) : ch_Q u u1 D D n P := by
  refine ⟨ch_M_t (ch_M_w ch_M_r (Or.inr (by omega))) (rm_ch hF), sp_M_eq (fun b => ?_) hM, hP1, ?_⟩
  · rw [hF.1 235 b (by omega) (by omega), I_sI, if_neg (by omega)]
  · rw [hF.1 233 0 (by omega) (by omega)]; rfl
theorem Q_w {u1 : ms_St} {D' : Nat → Nat} {k v : Nat} (h : ch_Q u u1 D D' n P) (hn : n ≤ 8) : ch_Q u (ms_sI u1 235 k (nI v)) D (sp_u D' k v) n P := by
  obtain ⟨a, b, c, d⟩ := h
  exact ⟨ch_M_w a (Or.inl (Nat.le_refl _)), M_u b, PM_eq (pu_le hn) c (fun x y q => by rw [I_sI, if_neg (by omega)]), by rw [I_sI, if_neg (by omega)]; exact d⟩
theorem PM_C {u1 : ms_St} {x : Int64} (hC : ch_C u u1) (hn : n ≤ 8) (h : sp_PM u n P) : sp_PM (ms_sJ u1 529 0 x) n P := PM_eq hn h (fun a b q => hC a b (by omega))
theorem M_C {u1 : ms_St} {x : Int64} (hC : ch_C u u1) (h : sp_M u 235 D) : sp_M (ms_sJ u1 529 0 x) 235 D := sp_M_eq (fun b => hC 235 b (by omega)) h
/-! plan -/
def pl_D (D : Nat → Nat) (w h : Nat) : Nat → Nat := sp_u (sp_u D (168 + 15 * w + 3 + D (168 + 15 * w + 2)) h) (168 + 15 * w + 2) (D (168 + 15 * w + 2) + 1)
theorem pl_f {x : Nat} (h1 : x ≠ 168 + 15 * w + 2) (h2 : x ≠ 168 + 15 * w + 3 + D (168 + 15 * w + 2)) : pl_D D w h x = D x := by unfold pl_D; rw [u_at, if_neg h1, u_at, if_neg h2]
theorem pl_2 : pl_D D w h (168 + 15 * w + 2) = D (168 + 15 * w + 2) + 1 := if_pos rfl
theorem pl_3 : pl_D D w h (168 + 15 * w + 3 + D (168 + 15 * w + 2)) = h := by unfold pl_D; rw [u_at, if_neg (by omega), u_at, if_pos rfl]
theorem pl_V (hV : sp_V D l) (hw : w < D 3) (hh : h < D 2) (hl : D (168 + 15 * w + 2) < 12) : sp_V (pl_D D w h) l := by
  have c3 := hV.1.2.2.2.1
  refine V_w hV (fun x hx => pl_f (by omega) (by omega)) (fun v hv => ?_)
  have g := hV.2.2.2.1 v hv
  by_cases e : v = w
  · subst e
    rw [pl_f (x := 168 + 15 * v) (by omega) (by omega), pl_f (x := 168 + 15 * v + 1) (by omega) (by omega), pl_2]
    refine ⟨g.1, g.2.1, by omega, fun k hk => ?_⟩
    by_cases e2 : k = D (168 + 15 * v + 2)
    · rw [e2, pl_3]; exact hh
    · rw [pl_f (by omega) (by omega)]; exact g.2.2.2 k (by omega)
  · rw [pl_f (x := 168 + 15 * v) (by omega) (by omega), pl_f (x := 168 + 15 * v + 1) (by omega) (by omega), pl_f (x := 168 + 15 * v + 2) (by omega) (by omega)]
    exact ⟨g.1, g.2.1, g.2.2.1, fun k hk => by rw [pl_f (by omega) (by omega)]; exact g.2.2.2 k hk⟩
theorem pl_R {T T' : Nat → Nat → Int32} (hV : sp_V D l) (hR : sp_R T D l) (hw : w < D 3) (hl : D (168 + 15 * w + 2) < 12) (eT : ∀ i y, i ≤ 17 → T' i y = T i y) (e18 : ∀ v, T' 18 v = if v = w then nI (D (168 + 15 * w + 2) + 1) else T 18 v) (e19 : ∀ y, T' 19 y = if y = w * 12 + D (168 + 15 * w + 2) then nI h else T 19 y) : sp_R T' (pl_D D w h) l := by
  have c3 := hV.1.2.2.2.1
  refine R_w hV hR (fun x hx => pl_f (by omega) (by omega)) eT (fun v hv => ?_)
  have g := hR.2.2.2 v hv
  have gv := (hV.2.2.2.1 v hv).2.2.1
  by_cases e : v = w
  · subst e
    refine ⟨pl_f (by omega) (by omega), pl_f (by omega) (by omega), ?_, fun k hk => ?_⟩
    · rw [e18, if_pos rfl, pl_2]
    · rw [pl_2] at hk
      rw [e19]
      by_cases e2 : k = D (168 + 15 * v + 2)
      · rw [e2, if_pos rfl, pl_3]
      · rw [if_neg (by omega), pl_f (by omega) (by omega)]; exact g.2.2.2 k (by omega)
  · refine ⟨pl_f (by omega) (by omega), pl_f (by omega) (by omega), ?_, fun k hk => ?_⟩
    · rw [e18, if_neg e, pl_f (by omega) (by omega)]; exact g.2.2.1
    · rw [pl_f (by omega) (by omega)] at hk
      rw [e19, if_neg (by omega), pl_f (by omega) (by omega)]; exact g.2.2.2 k hk
theorem c_plan (hV : sp_V D l) (hT : sp_R (sp_T u 2) D l) (hP : sp_PC u n q P Q) (hw : w < D 3) (hh : h < D 2) (hl : D (168 + 15 * w + 2) < 12) (hp : ∀ u', ch_P u u' D (pl_D D w h) l n P Q → post (nI (D (168 + 15 * w + 2) + 1)) u') : wp_X10_plan ms_E0 u 0 (nI w) (nI h) post px := by
  have c3 := hV.1.2.2.2.1
  have c2 := hV.1.2.2.1
  have e : ms_I u 20 w = nI (D (168 + 15 * w + 2)) := (hT.2.2.2 w hw).2.2.1
  have vw : vp_in (nI w) 3 := vp_in_nI (by omega) (by omega)
  unfold wp_X10_plan
  refine ckW_ok hT.1.2.2.2.2.2 (by omega) hw (ckH_ok hT.1.2.2.2.2.1 (by omega) hh ⟨vw, fun v22 e22 => ?_⟩)
  rw [at_0_3, at_2_5, at_17_3, nI_clamp (by omega), e] at e22
  subst e22
  rw [at_0_3, at_2_5, at_17_3, at_17_4, nI_clamp (show w < 2 ^ 31 by omega), show (12 : Int32) = nI 12 from rfl, pk_mul, nI_add, nI_clamp (by omega), nI_1]
  refine ⟨fun _ => c_beginChange hV hT hP (fun u1 q1 hF hP1 => ⟨vp_in_nI (by omega) (by omega), fun w60 e60 => ⟨vw, hp _ ?_⟩⟩), fun q => absurd (nI_lt hl (by omega)) q⟩
  subst e60
  have k1 : ∀ x y, (2 ≤ x ∧ x ≤ 22) → ms_I u1 x y = ms_I u x y := fun x y hx => hF.1 x y (by omega) (by omega)
  refine ⟨ch_C_w (ch_C_w (bc_ch hF) (by omega)) (by omega), Ca_none ?_ ?_, pl_R (T := sp_T u 2) hV hT hw hl (fun i y hi => ?_) (fun v => ?_) (fun y => ?_), q1, PC_eq hP1 (fun x y hx => ?_)⟩
  · rw [I_sI, if_neg (by omega), I_sI, if_neg (by omega)]; exact hF.2.2.1
  · rw [I_sI, if_neg (by omega), I_sI, if_neg (by omega)]; exact hF.2.2.2
  · show ms_I _ (2 + i) y = ms_I u (2 + i) y
    rw [I_sI, if_neg (by omega), I_sI, if_neg (by omega), k1 _ y (by omega)]
  · show ms_I _ 20 v = if v = w then _ else ms_I u 20 v
    rw [I_sI, I_sI, k1 20 v (by omega)]
    by_cases e : v = w
    · rw [if_pos ⟨rfl, e⟩, if_pos e]
    · rw [if_neg (by omega), if_neg (by omega), if_neg e]
  · show ms_I _ 21 y = if y = _ then _ else ms_I u 21 y
    rw [I_sI, I_sI, k1 21 y (by omega)]
    by_cases e : y = w * 12 + D (168 + 15 * w + 2)
    · rw [if_neg (by omega), if_pos ⟨rfl, e⟩, if_pos e]
    · rw [if_neg (by omega), if_neg (by omega), if_neg e]
  · rw [I_sI, if_neg (by omega), I_sI, if_neg (by omega)]
theorem c_plan_full (hV : sp_V D l) (hT : sp_R (sp_T u 2) D l) (hw : w < D 3) (hh : h < D 2) (hl : D (168 + 15 * w + 2) = 12) (hp : px "java/lang/IllegalStateException" u) : wp_X10_plan ms_E0 u 0 (nI w) (nI h) post px := by
  have c3 := hV.1.2.2.2.1
  have c2 := hV.1.2.2.1
  have e : ms_I u 20 w = nI (D (168 + 15 * w + 2)) := (hT.2.2.2 w hw).2.2.1
  unfold wp_X10_plan
  refine ckW_ok hT.1.2.2.2.2.2 (by omega) hw (ckH_ok hT.1.2.2.2.2.1 (by omega) hh ⟨vp_in_nI (by omega) (by omega), fun v22 e22 => ?_⟩)
  rw [at_0_3, at_2_5, at_17_3, nI_clamp (by omega), e, hl] at e22
  subst e22
  exact ⟨fun q => absurd q (nI_nlt (a := 12) (b := 12) (by omega) (by omega)), fun _ => hp⟩
theorem m_plan (hV : sp_V D l) (hM : sp_M u 235 D) (hn : n ≤ 8) (hP : sp_PM u n P) (hw : w < D 3) (hh : h < D 2) (hl : D (168 + 15 * w + 2) < 12) (hp : ∀ u', ch_Q u u' D (pl_D D w h) n P → post (nI (D (168 + 15 * w + 2) + 1)) u') : wp_X11_plan ms_E0 u 233 (nI w) (nI h) post := by
  have c3 := hV.1.2.2.2.1
  have c2 := hV.1.2.2.1
  have hM0 : sp_M (ms_sI u 233 0 0) 235 D := M_t hM (by decide)
  have v2 : vp_in (nI (168 + 15 * w + 2)) 1613 := vp_in_nI (by omega) (by omega)
  unfold wp_X11_plan wp_X11_plan_43 wp_X11_walker
  refine noW_ok (D := D) hM0 (by omega) hw rfl ⟨fun _ => noH_ok (D := D) hM0 c2 hh rfl ⟨fun _ => ?_, fun q => absurd rfl q⟩, fun q => absurd rfl q⟩
  dsimp only
  rw [show (2 : Int32) = nI 2 from rfl, show (3 : Int32) = nI 3 from rfl, ixW, ixW, at_233_8, nI_clamp (show 168 + 15 * w + 2 < 2 ^ 31 by omega), hM0 _ (by omega)]
  refine ⟨v2, pk_eq (D (168 + 15 * w + 2)) 12 (fun q => by omega) (fun _ => fails_ok rfl ⟨fun _ => m_remember hM0 hn (PM_0 hn hP) (fun u1 hF hP1 => ?_), fun q => absurd rfl q⟩)⟩
  have Q1 := Q_rm hF hM hP1
  rw [Q1.2.1 _ (show 168 + 15 * w + 2 < 1613 by omega), nI_add, nI_clamp (show 168 + 15 * w + 3 + D (168 + 15 * w + 2) < 2 ^ 31 by omega)]
  refine ⟨v2, vp_in_nI (by omega) (by omega), fun w78 e78 => ⟨v2, v2, fun w90 e90 => ⟨v2, ?_⟩⟩⟩
  have Q2 := Q_w (k := 168 + 15 * w + 3 + D (168 + 15 * w + 2)) (v := h) Q1 hn
  rw [← e78] at Q2
  rw [Q2.2.1 _ (show 168 + 15 * w + 2 < 1613 by omega), u_at, if_neg (by omega), nI_1] at e90
  have Q3 := Q_w (k := 168 + 15 * w + 2) (v := D (168 + 15 * w + 2) + 1) Q2 hn
  rw [← e90] at Q3
  rw [Q3.2.1 _ (show 168 + 15 * w + 2 < 1613 by omega), u_at, if_pos rfl]
  exact hp w90 Q3
theorem m_plan_no (hV : sp_V D l) (hM : sp_M u 235 D) (hb : a < 0 ∨ nI (D 3) ≤ a) (hp : post 0 (ms_sI (ms_sI u 233 0 0) 233 0 1)) : wp_X11_plan ms_E0 u 233 a a2 post := by
  have c3 := hV.1.2.2.2.1
  unfold wp_X11_plan
  exact noW_no (D := D) (M_t hM (by decide)) (by omega) hb rfl ⟨fun q => absurd q (by decide), fun _ => hp⟩
theorem m_plan_no2 (hV : sp_V D l) (hM : sp_M u 235 D) (hw : w < D 3) (hb : a < 0 ∨ nI (D 2) ≤ a) (hp : post 0 (ms_sI (ms_sI u 233 0 0) 233 0 1)) : wp_X11_plan ms_E0 u 233 (nI w) a post := by
  have c3 := hV.1.2.2.2.1
  unfold wp_X11_plan
  exact noW_ok (D := D) (M_t hM (by decide)) (by omega) hw rfl ⟨fun _ => noH_no (D := D) (M_t hM (by decide)) hV.1.2.2.1 hb rfl ⟨fun q => absurd q (by decide), fun _ => hp⟩, fun q => absurd rfl q⟩
theorem m_plan_full (hV : sp_V D l) (hM : sp_M u 235 D) (hw : w < D 3) (hh : h < D 2) (hl : D (168 + 15 * w + 2) = 12) (hp : post 0 (ms_sI (ms_sI u 233 0 0) 233 0 2)) : wp_X11_plan ms_E0 u 233 (nI w) (nI h) post := by
  have c3 := hV.1.2.2.2.1
  have c2 := hV.1.2.2.1
  have hM0 : sp_M (ms_sI u 233 0 0) 235 D := M_t hM (by decide)
  unfold wp_X11_plan wp_X11_plan_43 wp_X11_walker
  refine noW_ok (D := D) hM0 (by omega) hw rfl ⟨fun _ => noH_ok (D := D) hM0 c2 hh rfl ⟨fun _ => ?_, fun q => absurd rfl q⟩, fun q => absurd rfl q⟩
  dsimp only
  rw [show (168 : Int32) + 15 * nI w + 2 = nI (168 + 15 * w + 2) from ixW w 2, at_233_8, nI_clamp (show 168 + 15 * w + 2 < 2 ^ 31 by omega), hM0 _ (by omega), hl]
  exact ⟨vp_in_nI (by omega) (by omega), fun _ => fails_no rfl (by decide) (by decide) ⟨fun q => absurd q (by decide), fun _ => hp⟩, fun q => absurd rfl q⟩
/-! unplan -/
def up_D (D : Nat → Nat) (w : Nat) : Nat → Nat := sp_u D (168 + 15 * w + 2) (D (168 + 15 * w + 2) - 1)
theorem up_f {x : Nat} (h1 : x ≠ 168 + 15 * w + 2) : up_D D w x = D x := if_neg h1
theorem up_2 : up_D D w (168 + 15 * w + 2) = D (168 + 15 * w + 2) - 1 := if_pos rfl
theorem up_V (hV : sp_V D l) (hw : w < D 3) : sp_V (up_D D w) l := by
  have c3 := hV.1.2.2.2.1
  refine V_w hV (fun x hx => up_f (by omega)) (fun v hv => ?_)
  have g := hV.2.2.2.1 v hv
  by_cases e : v = w
  · subst e
    rw [up_f (x := 168 + 15 * v) (by omega), up_f (x := 168 + 15 * v + 1) (by omega), up_2]
    exact ⟨g.1, g.2.1, by omega, fun k hk => by rw [up_f (by omega)]; exact g.2.2.2 k (by omega)⟩
  · rw [up_f (x := 168 + 15 * v) (by omega), up_f (x := 168 + 15 * v + 1) (by omega), up_f (x := 168 + 15 * v + 2) (by omega)]
    exact ⟨g.1, g.2.1, g.2.2.1, fun k hk => by rw [up_f (by omega)]; exact g.2.2.2 k hk⟩
theorem up_R {T T' : Nat → Nat → Int32} (hV : sp_V D l) (hR : sp_R T D l) (hw : w < D 3) (eT : ∀ i y, i ≤ 17 → T' i y = T i y) (e18 : ∀ v, T' 18 v = if v = w then nI (D (168 + 15 * w + 2) - 1) else T 18 v) (e19 : ∀ y, T' 19 y = T 19 y) : sp_R T' (up_D D w) l := by
  have c3 := hV.1.2.2.2.1
  refine R_w hV hR (fun x hx => up_f (by omega)) eT (fun v hv => ?_)
  have g := hR.2.2.2 v hv
  have gv := (hV.2.2.2.1 v hv).2.2.1
  by_cases e : v = w
  · subst e
    refine ⟨up_f (by omega), up_f (by omega), ?_, fun k hk => ?_⟩
    · rw [e18, if_pos rfl, up_2]
    · rw [up_2] at hk
      rw [e19, up_f (by omega)]; exact g.2.2.2 k (by omega)
  · refine ⟨up_f (by omega), up_f (by omega), ?_, fun k hk => ?_⟩
    · rw [e18, if_neg e, up_f (by omega)]; exact g.2.2.1
    · rw [up_f (by omega)] at hk
      rw [e19, up_f (by omega)]; exact g.2.2.2 k hk
theorem c_unplan {m : Nat} (hV : sp_V D l) (hT : sp_R (sp_T u 2) D l) (hP : sp_PC u n q P Q) (hw : w < D 3) (hl : D (168 + 15 * w + 2) = m + 1) (hp : ∀ u', ch_P u u' D (up_D D w) l n P Q → post (nI (D (168 + 15 * w + 3 + m))) u') : wp_X10_unplan ms_E0 u 0 (nI w) post px := by
  have c3 := hV.1.2.2.2.1
  have g2 := (hV.2.2.2.1 w hw).2.2.1
  have e : ms_I u 20 w = nI (D (168 + 15 * w + 2)) := (hT.2.2.2 w hw).2.2.1
  have e2 : ms_I u 21 (w * 12 + m) = nI (D (168 + 15 * w + 3 + m)) := (hT.2.2.2 w hw).2.2.2 m (by omega)
  have vw : vp_in (nI w) 3 := vp_in_nI (by omega) (by omega)
  unfold wp_X10_unplan
  refine ckW_ok hT.1.2.2.2.2.2 (by omega) hw ⟨vw, fun v17 e17 => ?_⟩
  rw [at_0_3, at_2_5, at_17_3, nI_clamp (by omega), e, hl] at e17
  subst e17
  have ei : nI w * 12 + nI (m + 1) - 1 = nI (w * 12 + m) := by rw [show (12 : Int32) = nI 12 from rfl, pk_mul, nI_add, show w * 12 + (m + 1) = w * 12 + m + 1 from rfl, nI_pred]
  rw [at_0_3, at_2_5, at_17_3, at_17_4, nI_clamp (show w < 2 ^ 31 by omega), ei, nI_pred, nI_clamp (show w * 12 + m < 2 ^ 31 by omega)]
  refine ⟨fun _ => c_beginChange hV hT hP (fun u1 q1 hF hP1 => ⟨vw, vp_in_nI (by omega) (by omega), ?_⟩), fun q => absurd (nI_lt (a := 0) (by omega) (by omega)) q⟩
  have k1 : ∀ x y, (2 ≤ x ∧ x ≤ 22) → ms_I u1 x y = ms_I u x y := fun x y hx => hF.1 x y (by omega) (by omega)
  rw [I_sI, if_neg (by omega), k1 21 _ (by omega), e2]
  refine hp _ ⟨ch_C_w (bc_ch hF) (by omega), Ca_none ?_ ?_, up_R (T := sp_T u 2) hV hT hw (fun i y hi => ?_) (fun v => ?_) (fun y => ?_), q1, PC_eq hP1 (fun x y hx => ?_)⟩
  · rw [I_sI, if_neg (by omega)]; exact hF.2.2.1
  · rw [I_sI, if_neg (by omega)]; exact hF.2.2.2
  · show ms_I _ (2 + i) y = ms_I u (2 + i) y
    rw [I_sI, if_neg (by omega), k1 _ y (by omega)]
  · show ms_I _ 20 v = if v = w then _ else ms_I u 20 v
    rw [I_sI, k1 20 v (by omega), hl]
    by_cases e : v = w
    · rw [if_pos ⟨rfl, e⟩, if_pos e]; rfl
    · rw [if_neg (by omega), if_neg e]
  · show ms_I _ 21 y = ms_I u 21 y
    rw [I_sI, if_neg (by omega), k1 21 y (by omega)]
  · rw [I_sI, if_neg (by omega)]
theorem c_unplan_0 (hV : sp_V D l) (hT : sp_R (sp_T u 2) D l) (hw : w < D 3) (hl : D (168 + 15 * w + 2) = 0) (hp : px "java/lang/IllegalStateException" u) : wp_X10_unplan ms_E0 u 0 (nI w) post px := by
  have c3 := hV.1.2.2.2.1
  have e : ms_I u 20 w = nI (D (168 + 15 * w + 2)) := (hT.2.2.2 w hw).2.2.1
  unfold wp_X10_unplan
  refine ckW_ok hT.1.2.2.2.2.2 (by omega) hw ⟨vp_in_nI (by omega) (by omega), fun v17 e17 => ?_⟩
  rw [at_0_3, at_2_5, at_17_3, nI_clamp (by omega), e, hl] at e17
  subst e17
  exact ⟨fun q => absurd q (nI_nlt (a := 0) (b := 0) (by omega) (by omega)), fun _ => hp⟩
theorem m_unplan {m : Nat} (hV : sp_V D l) (hM : sp_M u 235 D) (hn : n ≤ 8) (hP : sp_PM u n P) (hw : w < D 3) (hl : D (168 + 15 * w + 2) = m + 1) (hp : ∀ u', ch_Q u u' D (up_D D w) n P → post (nI (D (168 + 15 * w + 3 + m))) u') : wp_X11_unplan ms_E0 u 233 (nI w) post := by
  have c3 := hV.1.2.2.2.1
  have g2 := (hV.2.2.2.1 w hw).2.2.1
  have hM0 : sp_M (ms_sI u 233 0 0) 235 D := M_t hM (by decide)
  have v2 : vp_in (nI (168 + 15 * w + 2)) 1613 := vp_in_nI (by omega) (by omega)
  unfold wp_X11_unplan wp_X11_unplan_33 wp_X11_walker
  refine noW_ok (D := D) hM0 (by omega) hw rfl ⟨fun _ => ?_, fun q => absurd rfl q⟩
  dsimp only
  rw [show (168 : Int32) + 15 * nI w + 2 = nI (168 + 15 * w + 2) from ixW w 2, show (168 : Int32) + 15 * nI w + 3 = nI (168 + 15 * w + 3) from ixW w 3, at_233_8, nI_clamp (show 168 + 15 * w + 2 < 2 ^ 31 by omega), hM0 _ (show 168 + 15 * w + 2 < 1613 by omega)]
  refine ⟨v2, pk_eq (D (168 + 15 * w + 2)) 0 (fun q => by omega) (fun _ => fails_ok rfl ⟨fun _ => m_remember hM0 hn (PM_0 hn hP) (fun u1 hF hP1 => ?_), fun q => absurd rfl q⟩)⟩
  have Q1 := Q_rm hF hM hP1
  rw [Q1.2.1 _ (show 168 + 15 * w + 2 < 1613 by omega), hl, nI_pred]
  refine ⟨v2, v2, fun w62 e62 => ?_⟩
  have Q2 := Q_w (k := 168 + 15 * w + 2) (v := m) Q1 hn
  rw [← e62] at Q2
  rw [Q2.2.1 _ (show 168 + 15 * w + 2 < 1613 by omega), u_at, if_pos rfl, nI_add, nI_clamp (show 168 + 15 * w + 3 + m < 2 ^ 31 by omega), Q2.2.1 _ (show 168 + 15 * w + 3 + m < 1613 by omega), u_at, if_neg (by omega)]
  refine ⟨v2, vp_in_nI (by omega) (by omega), hp w62 ?_⟩
  unfold up_D
  rw [hl]
  exact Q2
theorem m_unplan_no (hV : sp_V D l) (hM : sp_M u 235 D) (hb : a < 0 ∨ nI (D 3) ≤ a) (hp : post 0 (ms_sI (ms_sI u 233 0 0) 233 0 1)) : wp_X11_unplan ms_E0 u 233 a post := by
  have c3 := hV.1.2.2.2.1
  unfold wp_X11_unplan
  exact noW_no (D := D) (M_t hM (by decide)) (by omega) hb rfl ⟨fun q => absurd q (by decide), fun _ => hp⟩
theorem m_unplan_0 (hV : sp_V D l) (hM : sp_M u 235 D) (hw : w < D 3) (hl : D (168 + 15 * w + 2) = 0) (hp : post 0 (ms_sI (ms_sI u 233 0 0) 233 0 2)) : wp_X11_unplan ms_E0 u 233 (nI w) post := by
  have c3 := hV.1.2.2.2.1
  have hM0 : sp_M (ms_sI u 233 0 0) 235 D := M_t hM (by decide)
  unfold wp_X11_unplan wp_X11_unplan_33 wp_X11_walker
  refine noW_ok (D := D) hM0 (by omega) hw rfl ⟨fun _ => ?_, fun q => absurd rfl q⟩
  dsimp only
  rw [show (168 : Int32) + 15 * nI w + 2 = nI (168 + 15 * w + 2) from ixW w 2, at_233_8, nI_clamp (show 168 + 15 * w + 2 < 2 ^ 31 by omega), hM0 _ (show 168 + 15 * w + 2 < 1613 by omega), hl]
  exact ⟨vp_in_nI (by omega) (by omega), fun _ => fails_no rfl (by decide) (by decide) ⟨fun q => absurd q (by decide), fun _ => hp⟩, fun q => absurd rfl q⟩
end CH
