/-! ===== the simulation ends ===== -/
section SE
variable {S : Nat → Nat → Nat} {D : Nat → Nat} {l : List ms_Op} {w : Nat}
theorem go_1 {x : Nat} (hx : x ≠ w) : sp_go D l S w 1 x = S 1 x := by
  by_cases h1 : sp_wy D S w (sp_nh D S w) < 1000000
  · by_cases h2 : (S 7 0).testBit (sp_nh D S w) = true
    · rw [go_done h1 h2, up1, if_neg hx]
    · have h2 : (S 7 0).testBit (sp_nh D S w) = false := by simpa using h2
      by_cases h3 : S 5 (sp_nh D S w) = 2 ∨ (S 5 (sp_nh D S w) = 1 ∧ sp_na D S w < S 6 (sp_nh D S w) + D 5)
      · rw [go_ref h1 h2 h3, up1, if_neg hx]
      · by_cases h4 : D (56 + 7 * sp_nh D S w + 4) ≤ sp_na D S w ∧ sp_na D S w < D (56 + 7 * sp_nh D S w + 5)
        · rw [go_ans h1 h2 h3 h4, up1, if_neg hx]
        · rw [go_un h1 h2 h3 h4, up1, if_neg hx]
  · rw [go_far h1, up1, if_neg hx]
theorem sm_end (hV : sp_V D l) : ∀ (n : Nat) (S : Nat → Nat → Nat), sm_left D S (D 3) ≤ n → sm_V D S → sm_V D (sp_sm D l n S) ∧ ∀ w, w < D 3 → ¬ sp_sm D l n S 2 w < D (168 + 15 * w + 2)
  | 0, S, h, hS => ⟨hS, fun w hw => left_0 (S := S) (D 3) (by omega) w hw⟩
  | n + 1, S, h, hS => by
    unfold sp_sm
    rcases nx_up (D := D) (S := S) (D 3) with ⟨h1, h2⟩ | ⟨i, h1, _, h3, h4, _⟩
    · rw [if_pos h1]
      exact ⟨hS, fun w hw => h2 w (by omega) hw⟩
    · rw [if_neg (by omega), h1, Nat.add_sub_cancel]
      have hl := left_go (D := D) (l := l) (S := S) (w := i) (D 3)
      rw [if_pos ⟨h3, h4⟩] at hl
      exact sm_end hV n _ (by omega) (sm_V_go hV hS h3 h4)
theorem S_V (hV : sp_V D l) : sm_V D (sp_S D l) := (sm_end hV 36 _ (by have := left_le (S := sp_S0 D) hV (D 3) (Nat.le_refl _); have := hV.1.2.2.2.1; omega) (sm_V0 hV)).1
theorem S_end (hV : sp_V D l) (hw : w < D 3) : sp_S D l 2 w = D (168 + 15 * w + 2) := by
  have a := (sm_end hV 36 _ (by have := left_le (S := sp_S0 D) hV (D 3) (Nat.le_refl _); have := hV.1.2.2.2.1; omega) (sm_V0 hV)).2 w hw
  have b := ((S_V hV).1 w hw).1
  unfold sp_S at *
  omega
end SE
/-! ===== the class's simulation ===== -/
def cm_F (u0 u : ms_St) : Prop := (∀ a b, ¬ (52 ≤ a ∧ a ≤ 59) → ¬ (a = 51 ∧ b = 4) → ms_I u a b = ms_I u0 a b) ∧ ms_J u = ms_J u0
def cm_R (u : ms_St) (D : Nat → Nat) (S : Nat → Nat → Nat) : Prop := sm_R u 54 58 57 52 53 55 56 51 4 D S
def cm_a (D : Nat → Nat) (S : Nat → Nat → Nat) (w : Nat) : Int32 := if S 2 w < D (168 + 15 * w + 2) then sp_td (sp_wy D S w (sp_nh D S w)) else NO
def cm_A (u : ms_St) (D : Nat → Nat) (S : Nat → Nat → Nat) : Prop := ∀ w, w < D 3 → ms_I u 59 w = cm_a D S w
section SC
variable {S : Nat → Nat → Nat} {D : Nat → Nat} {l : List ms_Op} {u u0 : ms_St} {w h : Nat} {post : Int32 → ms_St → Prop} {pv : ms_St → Prop}
theorem cm_refl : cm_F u u := ⟨fun _ _ _ _ => rfl, rfl⟩
theorem cm_w (hF : cm_F u0 u) {a b : Nat} {v : Int32} (ha : (52 ≤ a ∧ a ≤ 59) ∨ (a = 51 ∧ b = 4)) : cm_F u0 (ms_sI u a b v) := by
  refine ⟨fun c d q q2 => ?_, hF.2⟩
  rw [I_sI, if_neg (by omega)]
  exact hF.1 c d q q2
theorem cm_T (hF : cm_F u0 u) (hR : sp_R (sp_T u0 2) D l) : sp_R (sp_T u 2) D l := sp_R_eq (fun i b hi => hF.1 _ b (by omega) (by omega)) hR
theorem cm_W (hF : cm_F u0 u) (hW : sp_cw u0 D) : sp_cw u D := fun a b ha hb => by rw [hF.1 50 _ (by omega) (by omega)]; exact hW a b ha hb
theorem td_NO {x : Nat} {A B : Prop} (f : 1000000 ≤ x → A) (g : x < 1000000 → B) : (sp_td x = -1 → A) ∧ (¬ sp_td x = -1 → B) := by
  unfold sp_td
  by_cases h : x < 1000000
  · rw [if_pos h]; exact ⟨fun q => absurd q (NO_ne (by omega)), fun _ => g h⟩
  · rw [if_neg h]; exact ⟨fun _ => f (by omega), fun q => absurd rfl q⟩
theorem td_max (x : Nat) : (if sp_td x < 0 then 0 else sp_td x) = nI (if x < 1000000 then x else 0) := by
  unfold sp_td
  by_cases h : x < 1000000
  · rw [if_pos h, if_neg (nI_pos (by omega)), if_pos h]
  · rw [if_neg h, if_pos (show NO < 0 from NO_lt), if_neg h]; rfl
theorem c_lookAhead (hV : sp_V D l) (hT : sp_R (sp_T u 2) D l) (hW : sp_cw u D) (hw : w < D 3) (r1 : ms_I u 58 w = sm_pl (S 1 w)) (r2 : ms_I u 57 w = nI (S 2 w)) (b1 : S 1 w ≤ D 2) (b2 : S 2 w ≤ 12) (hp : pv (ms_sI u 59 w (cm_a D S w))) : wp_X4_lookAhead ms_E0 u 51 2 49 (nI w) pv := by
  have c2 := hV.1.2.2.1
  have c3 := hV.1.2.2.2.1
  have kw : (nI w).toNatClampNeg = w := nI_clamp (by omega)
  have vw : vp_in (nI w) 3 := vp_in_nI (by omega) (by omega)
  have t1 : ms_I u 18 w = nI (D (168 + 15 * w)) := (hT.2.2.2 w hw).1
  unfold cm_a at hp
  unfold wp_X4_lookAhead wp_X4_lookAhead_86
  rw [at_51_6, at_51_7, at_51_8, at_2_5, at_17_1, kw, r2]
  refine ⟨vw, ?_⟩
  by_cases hd : S 2 w < D (168 + 15 * w + 2)
  · rw [if_pos hd] at hp
    have hh := nh_lt (S := S) hV hw hd
    refine c_plannedHouse hV hT hw hd ⟨fun q => absurd q (NO_ne (by unfold sp_nh at hh; omega)), fun _ => ⟨vw, ?_⟩⟩
    rw [r1, t1]
    unfold sp_wy at hp
    refine pl_NO (by omega) (fun q => ⟨vw, ?_⟩) (fun j q => ⟨vw, ?_⟩)
    · rw [if_pos q] at hp
      exact c_fromCrossing hV hT hW (hV.2.2.2.1 w hw).1 hh ⟨vw, hp⟩
    · rw [if_neg (by omega), q, Nat.add_sub_cancel] at hp
      rw [q, pl_s]
      exact c_between hV hT hW (by omega) hh ⟨vw, hp⟩
  · rw [if_neg hd] at hp
    exact c_plannedHouse_no hV hT hw (by omega) (by omega) ⟨fun _ => ⟨vw, hp⟩, fun q => absurd rfl q⟩
theorem c_fta7 (hV : sp_V D l) (hT : sp_R (sp_T u 2) D l) (hS : sm_V D S) (hR : cm_R u D S) (hA : cm_A u D S) (hp : post (sm_pl (sp_nx D S (D 3))) u) : ∀ m j x3, j + m = D 3 → (∀ i, sp_nx D S j = i + 1 → x3 = nI (sp_na D S i)) → wp_X4_firstToArrive_7 ms_E0 51 17 post (m + 1) u (sm_pl (sp_nx D S j)) x3 (nI j) := by
  have c3 := hV.1.2.2.2.1
  have e0 : ms_I u 17 0 = nI (D 3) := hT.1.2.2.2.2.2
  intro m
  induction m with
  | zero =>
    intro j x3 hj h3
    have e : j = D 3 := by omega
    subst e
    unfold wp_X4_firstToArrive_7
    rw [e0]
    exact ⟨fun _ => hp, fun q => absurd (nI_le (Nat.le_refl _) (by omega)) q⟩
  | succ m ih =>
    intro j x3 hj h3
    have kj : (nI j).toNatClampNeg = j := nI_clamp (by omega)
    have vj : vp_in (nI j) 3 := vp_in_nI (by omega) (by omega)
    have t3 : ms_I u 20 j = nI (D (168 + 15 * j + 2)) := (hT.2.2.2 j (by omega)).2.2.1
    have l1 := (hV.2.2.2.1 j (by omega)).2.2.1
    have l2 := hS.1 j (by omega)
    have g := hR.1 j (by omega)
    have bj := (na_lt hV hS (show j < D 3 by omega)).1
    have hx := nx_le (D := D) (S := S) j
    have ih' := ih (j + 1)
    unfold sp_nx at ih'
    unfold wp_X4_firstToArrive_7 wp_X4_firstToArrive_65 wp_X4_firstToArrive_71
    rw [e0, at_17_3, at_51_6, at_51_2, at_51_8, kj, t3, g.2.2.1, g.1, nI_1]
    refine ⟨fun q => absurd q (nI_ge (by omega) (by omega)), fun _ => ⟨vj, vj, pk_le (D (168 + 15 * j + 2)) (S 2 j) (fun q => ?_) (fun q => ⟨vj, vj, fun v52 e52 => ?_⟩)⟩⟩
    · rw [if_neg (by omega)] at ih'
      exact ih' x3 (by omega) h3
    · have e53 : v52 = nI (sp_na D S j) := by
        rw [e52, hA j (by omega)]
        unfold cm_a
        rw [if_pos q, td_max, nI_add]
        rfl
      clear e52
      subst e53
      have up : sp_nx D S j = 0 ∨ sp_na D S j < sp_na D S (sp_nx D S j - 1) → wp_X4_firstToArrive_7 ms_E0 51 17 post (m + 1) u (nI j) (nI (sp_na D S j)) (nI (j + 1)) := by
        intro q2
        rw [if_pos ⟨q, q2⟩] at ih'
        exact ih' _ (by omega) (fun i e => by rw [show i = j by omega])
      refine pl_NO (by omega) (fun q2 => up (Or.inl q2)) (fun i q2 => ?_)
      rw [h3 i q2]
      have hi : i < D 3 := by omega
      have bi := (na_lt hV hS hi).1
      refine pk_le (sp_na D S i) (sp_na D S j) (fun q4 => ?_) (fun q4 => up (Or.inr (by rw [q2, Nat.add_sub_cancel]; exact q4)))
      rw [if_neg (by rw [q2, Nat.add_sub_cancel]; omega)] at ih'
      refine ih' _ (by omega) (fun i' e => ?_)
      rw [show i' = i by omega]
theorem c_firstToArrive (hV : sp_V D l) (hT : sp_R (sp_T u 2) D l) (hS : sm_V D S) (hR : cm_R u D S) (hA : cm_A u D S) (hp : post (sm_pl (sp_nx D S (D 3))) u) : wp_X4_firstToArrive ms_E0 u 51 17 post := by
  unfold wp_X4_firstToArrive
  exact ⟨D 3 + 1, c_fta7 hV hT hS hR hA hp (D 3) 0 0 (by omega) (fun i q => by simp [sp_nx] at q)⟩
theorem c_mid {t h i d : Nat} : sm_mid u (ms_sI (ms_sI (ms_sI (ms_sI u 57 w (nI d)) 58 w (nI h)) 54 w (nI t)) 53 i (nI t)) 54 58 57 52 53 55 56 51 4 w i t (h + 1) d t := by
  refine ⟨⟨⟨?_, fun x hx => ?_⟩, ⟨?_, fun x hx => ?_⟩, ⟨?_, fun x hx => ?_⟩⟩, fun x hx => ?_, ⟨?_, fun x hx => ?_⟩, fun x => ?_, fun x => ?_, ?_⟩
  all_goals
    simp only [I_sI]
    first | rfl | (simp [pl_s]; done) | (simp [hx]; done)
theorem c_treat (hV : sp_V D l) (hT : sp_R (sp_T u0 2) D l) (hS : sm_V D S) (hR : cm_R u D S) (hA : cm_A u D S) (hw : w < D 3) (hd : S 2 w < D (168 + 15 * w + 2)) (hF : cm_F u0 u) (hp : ∀ u', cm_F u0 u' → cm_R u' D (sp_go D l S w) → (∀ x, ms_I u' 59 x = ms_I u 59 x) → pv u') : wp_X4_treat ms_E0 u 51 2 (nI w) pv := by
  have c2 := hV.1.2.2.1
  have c3 := hV.1.2.2.2.1
  have c5 := hV.1.2.2.2.2.2.1
  have hTu := cm_T hF hT
  have hh := nh_lt (S := S) hV hw hd
  have b := wy_le hV hS hw hh
  have bn := na_lt hV hS hw
  have lw := (hV.2.2.2.1 w hw).2.2.1
  have b5 := hS.2.1 (sp_nh D S w)
  have b7 := hS.2.2
  have r0 : ms_I u 54 w = nI (S 0 w) := (hR.1 w hw).1
  have r1 : ms_I u 58 w = sm_pl (S 1 w) := (hR.1 w hw).2.1
  have r2 : ms_I u 57 w = nI (S 2 w) := (hR.1 w hw).2.2.1
  have r5 : ms_I u 55 (sp_nh D S w) = nI (S 5 (sp_nh D S w)) := (hR.2.1 _ (by omega)).1
  have r6 : 1 ≤ S 5 (sp_nh D S w) → ms_I u 56 (sp_nh D S w) = nI (S 6 (sp_nh D S w)) := (hR.2.1 _ (by omega)).2
  have r7 : ms_I u 51 4 = nI (S 7 0) := hR.2.2
  have r9 : ms_I u 59 w = sp_td (sp_wy D S w (sp_nh D S w)) := by rw [hA w hw]; unfold cm_a; rw [if_pos hd]
  have b9 : (1 : Int32) <<< (nI (sp_nh D S w) &&& 31) = nI (2 ^ sp_nh D S w) := bt_1 (by omega)
  have vw : vp_in (nI w) 3 := vp_in_nI (by omega) (by omega)
  have vh : vp_in (nI (sp_nh D S w)) 16 := vp_in_nI (by omega) (by omega)
  have va : vp_in (nI (w * 12 + S 2 w)) 36 := vp_in_nI (by omega) (by omega)
  have kw : (nI w).toNatClampNeg = w := nI_clamp (by omega)
  have kh : (nI (sp_nh D S w)).toNatClampNeg = sp_nh D S w := nI_clamp (by omega)
  have ka : (nI (w * 12 + S 2 w)).toNatClampNeg = w * 12 + S 2 w := nI_clamp (by omega)
  have e8 : ms_I u 8 0 = nI (D 2) := hTu.1.2.2.2.2.1
  unfold wp_X4_treat
  rw [at_51_0, at_51_1, at_51_2, at_51_6, at_51_7, at_51_8, at_2_4, at_2_5, kw, r2]
  refine ⟨vw, fun v6 e6 => ?_⟩
  subst e6
  refine c_plannedHouse hV hTu hw hd ?_
  rw [show D (168 + 15 * w + 3 + S 2 w) = sp_nh D S w from rfl]
  rw [q_X0_has, e8, if_pos (good01 (by omega) hh)]
  refine ⟨fun q => absurd q (by decide), fun _ v37 e37 => ?_⟩
  have e38 : v37 = nI (w * 12 + S 2 w) := by rw [e37, show (12 : Int32) = nI 12 from rfl, pk_mul, nI_add]
  clear e37
  subst e38
  have i59 : ms_I (ms_sI u 57 w (nI (S 2 w) + 1)) 59 w = sp_td (sp_wy D S w (sp_nh D S w)) := by rw [I_sI, if_neg (by omega), r9]
  rw [ka, i59]
  refine ⟨vw, vw, td_NO (fun q => ⟨vw, va, fun w70 e70 => ⟨va, ?_⟩⟩) (fun q => ⟨vw, fun w87 e87 => ⟨vw, vw, vw, fun w102 e102 => ⟨vw, va, fun w115 e115 => ?_⟩⟩⟩)⟩
  · subst e70
    refine hp _ (cm_w (cm_w (cm_w hF (by omega)) (by omega)) (by omega)) ?_ (fun x => by simp [I_sI])
    rw [go_far (by omega)]
    exact sm_step hV hS hR hw hd (by simp [I_sI, r0, r1, r5, r7, nI_1, show (4 : Int32) = nI 4 from rfl]) (fun x hx => by simp [I_sI, r0, r1, r5, r7, nI_1, show (4 : Int32) = nI 4 from rfl, hx]) (by simp [I_sI, r0, r1, r5, r7, nI_1, show (4 : Int32) = nI 4 from rfl]) (fun x hx => by simp [I_sI, r0, r1, r5, r7, nI_1, show (4 : Int32) = nI 4 from rfl, hx]) (by simp [I_sI, r0, r1, r5, r7, nI_1, show (4 : Int32) = nI 4 from rfl]) (fun x hx => by simp [I_sI, r0, r1, r5, r7, nI_1, show (4 : Int32) = nI 4 from rfl, hx]) (by simp [I_sI, r0, r1, r5, r7, nI_1, show (4 : Int32) = nI 4 from rfl]) (fun x hx => by simp [I_sI, r0, r1, r5, r7, nI_1, show (4 : Int32) = nI 4 from rfl, hx]) (by simp [I_sI, r0, r1, r5, r7, nI_1, show (4 : Int32) = nI 4 from rfl]) (fun x hx => by simp [I_sI, r0, r1, r5, r7, nI_1, show (4 : Int32) = nI 4 from rfl, hx]) (by simp [I_sI, r0, r1, r5, r7, nI_1, show (4 : Int32) = nI 4 from rfl]) (fun x hx => by simp [I_sI, r0, r1, r5, r7, nI_1, show (4 : Int32) = nI 4 from rfl, hx]) (fun q => by simp [I_sI, r0, r1, r5, r7, nI_1, show (4 : Int32) = nI 4 from rfl, r6 q]) (fun x hx => by simp [I_sI, r0, r1, r5, r7, nI_1, show (4 : Int32) = nI 4 from rfl, hx]) (by simp [I_sI, r0, r1, r5, r7, nI_1, show (4 : Int32) = nI 4 from rfl])
  have en : sp_na D S w = S 0 w + sp_wy D S w (sp_nh D S w) := by unfold sp_na; rw [if_pos q]
  have ew : sp_td (sp_wy D S w (sp_nh D S w)) = nI (sp_wy D S w (sp_nh D S w)) := by unfold sp_td; rw [if_pos q]
  change w87 = ms_sI (ms_sI u 57 w (nI (S 2 w) + 1)) 58 w (nI (sp_nh D S w)) at e87
  have g87 : ms_I w87 54 w + ms_I w87 59 w = nI (sp_na D S w) := by subst e87; simp [I_sI, r0, r9, ew, nI_add, en]
  rw [g87] at e102
  have g102 : ms_I w102 54 w = nI (sp_na D S w) := by subst e102; simp [I_sI]
  rw [g102] at e115
  have gT : ms_I w115 54 w = nI (sp_na D S w) := by subst e115; simp [I_sI, g102]
  have g7 : ms_I w115 51 4 = nI (S 7 0) := by subst e87; subst e102; subst e115; simp [I_sI, r7]
  have g5 : ms_I w115 55 (sp_nh D S w) = nI (S 5 (sp_nh D S w)) := by subst e87; subst e102; subst e115; simp [I_sI, r5]
  have g6 : ms_I w115 56 (sp_nh D S w) = ms_I u 56 (sp_nh D S w) := by subst e87; subst e102; subst e115; simp [I_sI]
  have g8 : cm_F u0 w115 := by subst e87; subst e102; subst e115; exact cm_w (cm_w (cm_w (cm_w hF (by omega)) (by omega)) (by omega)) (by omega)
  have gd : ms_I w115 2 2 = nI (D 5) := (cm_T g8 hT).1.2.2.1 (by omega)
  have hm : sm_mid u w115 54 58 57 52 53 55 56 51 4 w (w * 12 + S 2 w) (sp_na D S w) (sp_nh D S w + 1) (S 2 w + 1) (sp_na D S w) := by subst e87; subst e102; subst e115; rw [nI_1]; exact c_mid
  have s88 : ∀ r v, (∀ a b, ¬ (a = 52 ∧ b = w * 12 + S 2 w) → ms_I v a b = ms_I w115 a b) → ms_I v 52 (w * 12 + S 2 w) = nI r → cm_R v D (sm_up S w (sp_na D S w) (sp_nh D S w + 1) r (sp_na D S w) (sp_nh D S w) (S 5 (sp_nh D S w)) (S 6 (sp_nh D S w)) (S 7 0)) := fun r v hv hr => mid_1 hV hS hR hw hd (Nat.lt_of_lt_of_le hh c2) hm (by decide) hv hr
  have s59 : ∀ x, ms_I w115 59 x = ms_I u 59 x := by intro x; subst e87; subst e102; subst e115; simp [I_sI]
  clear g87 g102 e87 e102 e115
  show wp_X4_callOn ms_E0 w115 51 2 (nI w) (nI (sp_nh D S w)) _
  unfold wp_X4_callOn
  rw [at_51_2, kw, gT, g7]
  refine ⟨vw, fun v6 e6 => ?_⟩
  subst e6
  refine q_contains (by omega) (by omega) ?_
  by_cases h2 : (S 7 0).testBit (sp_nh D S w) = true
  · rw [if_pos h2]
    refine ⟨fun q => absurd q (by decide), fun _ => ⟨va, hp _ (cm_w g8 (by omega)) ?_ (fun x => by rw [I_sI, if_neg (by omega), s59])⟩⟩
    rw [go_done q h2]
    exact s88 2 _ (fun a b q => by rw [I_sI, if_neg q]) (by rw [I_sI, if_pos ⟨rfl, rfl⟩]; rfl)
  rw [if_neg h2]
  have h2 : (S 7 0).testBit (sp_nh D S w) = false := by simpa using h2
  unfold wp_X4_callOn_57
  rw [at_51_3, at_51_5, kh, g5, g6, gd]
  have fr : (S 5 (sp_nh D S w) = 2 ∨ (S 5 (sp_nh D S w) = 1 ∧ sp_na D S w < S 6 (sp_nh D S w) + D 5)) → pv (ms_sI w115 52 (w * 12 + S 2 w) 3) := by
    intro h3
    refine hp _ (cm_w g8 (by omega)) ?_ (fun x => by rw [I_sI, if_neg (by omega), s59])
    rw [go_ref q h2 h3]
    exact s88 3 _ (fun a b q => by rw [I_sI, if_neg q]) (by rw [I_sI, if_pos ⟨rfl, rfl⟩]; rfl)
  have fg : ¬ (S 5 (sp_nh D S w) = 2 ∨ (S 5 (sp_nh D S w) = 1 ∧ sp_na D S w < S 6 (sp_nh D S w) + D 5)) → wp_X4_callOn_59 ms_E0 51 2 (nI w) (nI (sp_nh D S w)) (fun r127 u127 => vp_in (nI (w * 12 + S 2 w)) 36 ∧ pv (ms_sI u127 52 (w * 12 + S 2 w) r127)) w115 (nI (sp_na D S w)) := by
    intro h3
    unfold wp_X4_callOn_59
    rw [at_51_2, at_51_3, at_51_5, at_2_4, kh, kw, g5, nI_1]
    refine ⟨vh, vh, fun w68 e68 => ⟨vh, ?_⟩⟩
    have hF1 : cm_F u0 (ms_sI w68 56 (sp_nh D S w) (nI (sp_na D S w))) := by subst e68; exact cm_w (cm_w g8 (by omega)) (by omega)
    refine c_homeAt hV (cm_T hF1 hT) hh (by omega) ?_
    by_cases h4 : D (56 + 7 * sp_nh D S w + 4) ≤ sp_na D S w ∧ sp_na D S w < D (56 + 7 * sp_nh D S w + 5)
    · rw [if_pos h4]
      refine ⟨fun q => absurd q (by decide), fun _ => ⟨vh, ?_⟩⟩
      have e4 : ms_I (ms_sI w68 56 (sp_nh D S w) (nI (sp_na D S w))) 51 4 ||| (1 : Int32) <<< (nI (sp_nh D S w) &&& 31) = nI (S 7 0 ||| 2 ^ sp_nh D S w) := by
        rw [b9]
        subst e68
        simp only [I_sI]
        simp [g7, bt_or]
      rw [e4]
      have e5 : ms_I (ms_sI (ms_sI w68 56 (sp_nh D S w) (nI (sp_na D S w))) 51 4 (nI (S 7 0 ||| 2 ^ sp_nh D S w))) 55 (sp_nh D S w) = nI (S 5 (sp_nh D S w) + 1) := by subst e68; simp [I_sI]
      rw [e5]
      refine c_visitTime hV (cm_T (cm_w hF1 (by omega)) hT) hh (by omega) ⟨vw, va, hp _ (cm_w (cm_w (cm_w hF1 (by omega)) (by omega)) (by omega)) ?_ (fun x => by subst e68; simp [I_sI, s59])⟩
      rw [go_ans q h2 h3 h4, nI_add]
      subst e68
      exact mid_2 hV hS hR hw hd hm (by simp only [I_sI]; simp) (fun x hx => by simp only [I_sI]; simp [hx]) (fun x => by simp only [I_sI]; simp) (fun x => by simp only [I_sI]; simp) (by simp only [I_sI]; simp; rfl) (fun x hx => by simp only [I_sI]; simp [hx]) (fun x => by simp only [I_sI]; simp) (by simp only [I_sI]; simp) (fun x hx => by simp only [I_sI]; simp [hx]) (by simp only [I_sI]; simp) (fun x hx => by simp only [I_sI]; simp [hx]) (by simp only [I_sI]; simp)
    · rw [if_neg h4]
      refine ⟨fun _ => ⟨vw, va, hp _ (cm_w (cm_w hF1 (by omega)) (by omega)) ?_ (fun x => by subst e68; simp [I_sI, s59])⟩, fun q => absurd rfl q⟩
      rw [go_un q h2 h3 h4, nI_1]
      subst e68
      exact mid_2 hV hS hR hw hd hm (by simp only [I_sI]; simp) (fun x hx => by simp only [I_sI]; simp [hx]) (fun x => by simp only [I_sI]; simp) (fun x => by simp only [I_sI]; simp) (by simp only [I_sI]; simp; rfl) (fun x hx => by simp only [I_sI]; simp [hx]) (fun x => by simp only [I_sI]; simp) (by simp only [I_sI]; simp) (fun x hx => by simp only [I_sI]; simp [hx]) (by simp only [I_sI]; simp) (fun x hx => by simp only [I_sI]; simp [hx]) (by simp only [I_sI]; simp [g7])
  refine ⟨fun _ => ⟨vh, pk_le 2 (S 5 (sp_nh D S w)) (fun q2 => ⟨va, fr (Or.inl (by omega))⟩) (fun q2 => ⟨vh, pk_eq (S 5 (sp_nh D S w)) 1 (fun q3 => ⟨vh, ?_⟩) (fun q3 => fg (by omega))⟩)⟩, fun q => absurd rfl q⟩
  rw [r6 (by omega)]
  exact le_sub (by omega) (by omega) (by omega) (fun q4 => fg (by omega)) (fun q4 => ⟨va, fr (Or.inr ⟨q3, by omega⟩)⟩)
theorem cm_A_go (hA : cm_A u D S) {u' : ms_St} (h1 : ∀ x, x ≠ w → ms_I u' 59 x = ms_I u 59 x) (h2 : ms_I u' 59 w = cm_a D (sp_go D l S w) w) : cm_A u' D (sp_go D l S w) := by
  intro x hx
  by_cases q : x = w
  · subst q; exact h2
  · rw [h1 x q, hA x hx]
    unfold cm_a sp_wy sp_nh
    rw [go_1 q, go_2, if_neg q]
theorem cm_R_59 (hR : cm_R u D S) {v : Int32} {x : Nat} : cm_R (ms_sI u 59 x v) D S := by
  refine ⟨fun w hw => ?_, fun h hh => ?_, ?_⟩
  · have g := hR.1 w hw
    simp only [I_sI]
    simpa using g
  · have g := hR.2.1 h hh
    simp only [I_sI]
    simpa using g
  · have g := hR.2.2
    simp only [I_sI]
    simpa using g
theorem c_r70 (hV : sp_V D l) (hT : sp_R (sp_T u0 2) D l) (hW : sp_cw u0 D) : ∀ (n : Nat) (S : Nat → Nat → Nat) (u : ms_St), n ≤ 36 → sm_V D S → cm_R u D S → cm_A u D S → cm_F u0 u → (∀ u', cm_F u0 u' → cm_R u' D (sp_sm D l n S) → pv u') → wp_X4_run_70 ms_E0 51 2 49 pv (n + 1) u (nI (36 - n)) := by
  have c3 := hV.1.2.2.2.1
  intro n
  induction n with
  | zero =>
    intro S u hn hS hR hA hF hp
    unfold wp_X4_run_70
    exact ⟨fun _ => hp u hF hR, fun q => absurd (nI_le (a := 36) (b := 36) (by omega) (by omega)) q⟩
  | succ n ih =>
    intro S u hn hS hR hA hF hp
    have hx := nx_le (D := D) (S := S) (D 3)
    unfold sp_sm at hp
    unfold wp_X4_run_70
    rw [at_2_5, nI_1]
    refine ⟨fun q => absurd q (nI_ge (a := 36 - (n + 1)) (b := 36) (by omega) (by omega)), fun _ => c_firstToArrive hV (cm_T hF hT) hS hR hA (pl_NO (by omega) (fun q => ?_) (fun j q => ?_))⟩
    · rw [if_pos q] at hp
      exact hp u hF hR
    · rw [if_neg (by omega), q, Nat.add_sub_cancel] at hp
      rw [q, pl_s]
      rcases nx_up (D := D) (S := S) (D 3) with ⟨h1, _⟩ | ⟨i, h1, _, h3, h4, _⟩
      · omega
      have e : i = j := by omega
      subst e
      refine c_treat hV hT hS hR hA h3 h4 hF (fun u' hF' hR' h59 => ?_)
      have hS' := sm_V_go hV hS h3 h4
      have g := hR'.1 i h3
      refine c_lookAhead (S := sp_go D l S i) hV (cm_T hF' hT) (cm_W hF' hW) h3 g.2.1 g.2.2.1 (hS'.1 i h3).2.2 (na_lt hV hS' h3).2.1 ?_
      rw [show 36 - (n + 1) + 1 = 36 - n by omega]
      exact ih _ _ (by omega) hS' (cm_R_59 hR') (cm_A_go (w := i) hA (fun x hx => by rw [I_sI, if_neg (by omega), h59]) (by rw [I_sI, if_pos ⟨rfl, rfl⟩])) (cm_w hF' (by omega)) hp
theorem c_r15 (hV : sp_V D l) (hT : sp_R (sp_T u0 2) D l) (hW : sp_cw u0 D) (hp : ∀ u', cm_F u0 u' → cm_R u' D (sp_S D l) → pv u') : ∀ m j u, j + m = D 3 → cm_F u0 u → (∀ w, w < j → ms_I u 54 w = nI (sp_S0 D 0 w) ∧ ms_I u 58 w = NO ∧ ms_I u 57 w = nI 0 ∧ ms_I u 59 w = cm_a D (sp_S0 D) w) → (∀ h, h < 16 → ms_I u 55 h = nI 0) → ms_I u 51 4 = nI 0 → wp_X4_run_15 ms_E0 51 2 49 pv (m + 1) u (nI j) := by
  have c3 := hV.1.2.2.2.1
  intro m
  induction m with
  | zero =>
    intro j u hj hF h1 h2 h3
    have e : j = D 3 := by omega
    subst e
    have e0 : ms_I u 17 0 = nI (D 3) := (cm_T hF hT).1.2.2.2.2.2
    have hR : cm_R u D (sp_S0 D) := ⟨fun w hw => ⟨(h1 w hw).1, (h1 w hw).2.1, (h1 w hw).2.2.1, fun k hk => by simp [sp_S0] at hk⟩, fun h hh => ⟨h2 h hh, fun q => by simp [sp_S0] at q⟩, h3⟩
    unfold wp_X4_run_15
    rw [at_2_5, e0]
    exact ⟨fun _ => ⟨37, c_r70 hV hT hW 36 (sp_S0 D) u (by omega) (sm_V0 hV) hR (fun w hw => (h1 w hw).2.2.2) hF hp⟩, fun q => absurd (nI_le (Nat.le_refl _) (by omega)) q⟩
  | succ m ih =>
    intro j u hj hF h1 h2 h3
    have hT' := cm_T hF hT
    have e0 : ms_I u 17 0 = nI (D 3) := hT'.1.2.2.2.2.2
    have kj : (nI j).toNatClampNeg = j := nI_clamp (by omega)
    have vj : vp_in (nI j) 3 := vp_in_nI (by omega) (by omega)
    have t2 : ms_I u 19 j = nI (D (168 + 15 * j + 1)) := (hT'.2.2.2 j (by omega)).2.1
    unfold wp_X4_run_15
    rw [at_2_5, at_51_6, at_51_7, at_51_2, at_17_2, kj, e0, nI_1]
    refine ⟨fun q => absurd q (nI_ge (by omega) (by omega)), fun _ => ⟨vj, vj, fun w39 e39 => ⟨vj, vj, fun w54 e54 => ?_⟩⟩⟩
    have g39 : ms_I w39 19 j = nI (D (168 + 15 * j + 1)) := by subst e39; simp [I_sI, t2]
    rw [g39] at e54
    subst e39
    subst e54
    have hF' : cm_F u0 (ms_sI (ms_sI (ms_sI u 57 j 0) 58 j (-1)) 54 j (nI (D (168 + 15 * j + 1)))) := cm_w (cm_w (cm_w hF (by omega)) (by omega)) (by omega)
    refine c_lookAhead (S := sp_S0 D) hV (cm_T hF' hT) (cm_W hF' hW) (by omega) (by simp [I_sI, sp_S0, pl_0, NO]) (by simp [I_sI, sp_S0]; rfl) (by simp [sp_S0]) (by simp [sp_S0]) ?_
    refine ih (j + 1) _ (by omega) (cm_w hF' (by omega)) (fun w hw => ?_) (fun h hh => by simp only [I_sI]; simp [h2 h hh]) (by simp only [I_sI]; simp [h3])
    by_cases q : w = j
    · subst q
      simp only [I_sI]
      simp [sp_S0]
      exact ⟨rfl, rfl⟩
    · have := h1 w (by omega)
      simp only [I_sI]
      simp [q]
      exact this
theorem n55 : ms_N ms_E0 55 = 16 := by decide +kernel
theorem c_run (hV : sp_V D l) (hT : sp_R (sp_T u 2) D l) (hW : sp_cw u D) (hp : ∀ u', cm_F u u' → cm_R u' D (sp_S D l) → pv u') : wp_X4_run ms_E0 u 51 2 49 pv := by
  unfold wp_X4_run
  rw [at_51_3]
  refine J_fill n55 (by omega) (fun u1 h1 h2 h3 => ⟨D 3 + 1, ?_⟩)
  have hF : cm_F u (ms_sI u1 51 4 0) := cm_w ⟨fun a b q _ => h1 a b (by omega), h2⟩ (by omega)
  exact c_r15 hV hT hW hp (D 3) 0 _ (by omega) hF (fun w hw => by omega) (fun h hh => by rw [I_sI, if_neg (by omega)]; exact h3 h hh) (by rw [I_sI, if_pos ⟨rfl, rfl⟩]; rfl)
theorem c_refreshSimulation (hV : sp_V D l) (hT : sp_R (sp_T u 2) D l) (hc : sp_Ca u D l) (hp : ∀ u', sp_KC u u' → sp_Ca u' D l → sp_cs u' D l → ms_J u' = ms_J u → pv u') : wp_X10_refreshSimulation ms_E0 u 0 pv := by
  unfold wp_X10_refreshSimulation wp_X10_refreshSimulation_31
  rw [at_0_3, at_0_8, at_0_9]
  refine ⟨fun _ => c_refreshRoutes hV hT hc.1 (fun u1 hF hJ hW => c_run hV (rr_R hF hT) hW (fun u2 h2 hR => ?_)), fun q => hp u sp_KC_refl hc (hc.2 q) rfl⟩
  have k1 := rr_KC hF
  have k2 : sp_KC u1 (ms_sI u2 0 12 1) := by
    refine sp_KC_0 (fun a b q => h2.1 a b ?_ ?_) (Or.inr rfl)
    · unfold sp_Kp at q; omega
    · unfold sp_Kp at q; omega
  have hs : sp_cs (ms_sI u2 0 12 1) D l := by
    refine ⟨fun w hw => ?_, fun h hh => ?_, ?_⟩
    · have g := hR.1 w hw
      rw [S_end hV hw] at g
      simp only [I_sI]
      exact ⟨by simpa using g.1, fun k hk => by simpa using g.2.2.2 k hk⟩
    · have g := (hR.2.1 h (by have := hV.1.2.2.1; omega)).1
      simp only [I_sI]
      simpa using g
    · have g := hR.2.2
      simp only [I_sI]
      simpa using g
  refine hp _ (sp_KC_tr k1 k2) ⟨fun _ a b ha hb => ?_, fun _ => hs⟩ hs (by rw [J_sI, h2.2, hJ])
  rw [I_sI, if_neg (by omega), h2.1 50 _ (by omega) (by omega)]
  exact hW a b ha hb
end SC
