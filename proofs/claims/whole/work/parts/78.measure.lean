/-! ===== the class's matrix: row 50 ===== -/
theorem J_fill {E : ms_En} {a0 N : Nat} {v : Int32} {pv : ms_St → Prop} (hN : ms_N E a0 = N) (hN2 : N < 2 ^ 31) {u : ms_St} (hp : ∀ u', (∀ a b, a ≠ a0 → ms_I u' a b = ms_I u a b) → ms_J u' = ms_J u → (∀ b, b < N → ms_I u' a0 b = v) → pv u') : wp_J7_fill_53178 E u a0 v pv := by
  unfold wp_J7_fill_53178
  rw [hN]
  intro v4 e
  subst e
  have st : ∀ m j w, j + m = N → (∀ a b, a ≠ a0 → ms_I w a b = ms_I u a b) → ms_J w = ms_J u → (∀ b, b < j → ms_I w a0 b = v) → wp_J7_fill_53178_5 E a0 v pv (m + 1) w (nI j) (nI N) := by
    intro m
    induction m with
    | zero =>
      intro j w hj h1 h2 h3
      have : j = N := by omega
      subst this
      unfold wp_J7_fill_53178_5
      exact ⟨fun _ => hp w h1 h2 h3, fun q => absurd (nI_le (Nat.le_refl _) (by omega)) q⟩
    | succ m ih =>
      intro j w hj h1 h2 h3
      unfold wp_J7_fill_53178_5
      rw [hN, nI_clamp (by omega), nI_1]
      refine ⟨fun q => absurd q (nI_ge (by omega) (by omega)), fun _ => ⟨vp_in_nI (by omega) hN2, ih (j + 1) _ (by omega) ?_ h2 ?_⟩⟩
      · intro a b ha
        rw [I_sI, if_neg (by omega)]
        exact h1 a b ha
      · intro b hb
        rw [I_sI]
        by_cases e : b = j
        · rw [if_pos ⟨rfl, e⟩]
        · rw [if_neg (by omega)]
          exact h3 b (by omega)
  exact ⟨N + 1, st N 0 u (by omega) (fun _ _ _ => rfl) rfl (fun b hb => by omega)⟩
def dg_M (j : Nat) : Nat → Nat → Nat := fun a b => if a = b ∧ a < j then 0 else 1000000
theorem dg_at {j a b : Nat} : dg_M j a b = if a = b ∧ a < j then 0 else 1000000 := rfl
theorem n50 : ms_N ms_E0 50 = 100 := by decide +kernel
theorem q_X1_isCrossing {E : ms_En} {u : ms_St} {a : Int32} {post : Int32 → ms_St → Prop} : wp_X1_isCrossing E u a post ↔ post (if 0 ≤ a ∧ a < 10 then 1 else 0) u := by
  unfold wp_X1_isCrossing wp_X1_isCrossing_14 wp_X1_isCrossing_15
  by_cases h : a < 0
  · have : ¬ 0 ≤ a := Int32.not_le.mpr h
    simp [h, this]
  · have h0 : 0 ≤ a := Int32.not_lt.mp h
    by_cases h2 : 10 ≤ a
    · have : ¬ a < 10 := Int32.not_lt.mpr h2
      simp [h, h0, h2, this]
    · have : a < 10 := Int32.not_le.mp h2
      simp [h, h0, h2, this]
def cw_F (u0 u : ms_St) : Prop := (∀ a b, a ≠ 50 → ms_I u a b = ms_I u0 a b) ∧ ms_J u = ms_J u0
def cw_S (u0 u : ms_St) (n : Nat) (M : Nat → Nat → Nat) : Prop := cw_F u0 u ∧ ∀ a b, a < n → b < n → ms_I u 50 (a * 10 + b) = nI (M a b)
section PX
variable {u0 u : ms_St} {n : Nat} {M : Nat → Nat → Nat} {D : Nat → Nat} {l : List ms_Op} {pv : ms_St → Prop} {post : Int32 → ms_St → Prop} {a b v g h c : Nat}
theorem isC {a : Nat} (h : a < 10) : (0 : Int32) ≤ nI a ∧ nI a < 10 := ⟨nI_pos' (by omega), nI_lt (b := 10) h (by decide)⟩
theorem c_way (ha : a < 10) (hb : b < 10) (hp : post (ms_I u 50 (a * 10 + b)) u) : wp_X1_way ms_E0 u 49 (nI a) (nI b) post := by
  unfold wp_X1_way wp_X1_way_30
  rw [q_X1_isCrossing, if_pos (isC ha)]
  refine ⟨fun q => absurd q (by decide), fun _ => ?_⟩
  rw [q_X1_isCrossing, if_pos (isC hb)]
  refine ⟨fun q => absurd q (by decide), fun _ => ?_⟩
  rw [show (10 : Int32) = nI 10 from rfl, pk_mul, nI_add, at_49_0, nI_clamp (by omega)]
  exact ⟨vp_in_nI (by omega) (by omega), hp⟩
theorem c_shorten (hS : cw_S u0 u n M) (hn : n ≤ 10) (ha : a < n) (hb : b < n) (hv : v < 2 ^ 31) (hm : M a b < 2 ^ 31) (hp : ∀ u', cw_S u0 u' n (ms_u2 M a b (min (M a b) v)) → pv u') : wp_X1_shorten ms_E0 u 49 (nI a) (nI b) (nI v) pv := by
  unfold wp_X1_shorten wp_X1_shorten_41
  rw [q_X1_isCrossing, if_pos (isC (by omega))]
  refine ⟨fun q => absurd q (by decide), fun _ => ?_⟩
  rw [q_X1_isCrossing, if_pos (isC (by omega))]
  refine ⟨fun q => absurd q (by decide), fun _ => ?_⟩
  have hi : vp_in (nI (a * 10 + b)) 100 := vp_in_nI (by omega) (by omega)
  rw [show (10 : Int32) = nI 10 from rfl, pk_mul, nI_add, at_49_0, nI_clamp (by omega), hS.2 a b ha hb]
  refine ⟨hi, pk_le (M a b) v (fun q => hp u ⟨hS.1, fun c d hc hd => ?_⟩) (fun q => ⟨hi, hp _ ⟨⟨fun c d hc => ?_, hS.1.2⟩, fun c d hc hd => ?_⟩⟩)⟩
  · rw [u2_at]
    split
    · rename_i e; rw [e.1, e.2, hS.2 a b ha hb, Nat.min_eq_left q]
    · exact hS.2 c d hc hd
  · rw [I_sI, if_neg (by omega)]; exact hS.1.1 c d hc
  · rw [I_sI, u2_at]
    by_cases e : c = a ∧ d = b
    · rw [if_pos e, if_pos (by rw [e.1, e.2]; exact ⟨rfl, rfl⟩), Nat.min_eq_right (by omega)]
    · rw [if_neg e, if_neg (by omega)]
      exact hS.2 c d hc hd
theorem c_saf19 {k : Nat} (hn : n ≤ 10) (hk : k < n) (ha : a < n) (hZ : wy_Z M) (hp : ∀ u', cw_S u0 u' n (sp_wB M k a n) → pv u') : ∀ m j u, j + m = n → cw_S u0 u n (sp_wB M k a j) → wp_X1_shortenAllFrom_19 ms_E0 49 (nI a) (nI k) (nI n) pv (m + 1) u (nI (M a k)) (nI j) := by
  intro m
  induction m with
  | zero =>
    intro j u hj hS
    have : j = n := by omega
    subst this
    unfold wp_X1_shortenAllFrom_19
    exact ⟨fun _ => hp u hS, fun q => absurd (nI_le (Nat.le_refl _) (by omega)) q⟩
  | succ m ih =>
    intro j u hj hS
    unfold wp_X1_shortenAllFrom_19
    have b1 := (wy_ZB hZ k a j).2 a j
    have b2 := hZ.2 a k
    have b3 := (wy_ZB hZ k a j).2 k j
    refine ⟨fun q => absurd q (nI_ge (by omega) (by omega)), fun _ => c_way (by omega) (by omega) ?_⟩
    rw [hS.2 k j hk (by omega), nI_add, nI_1]
    refine c_shorten hS hn ha (by omega) (by omega) (by omega) (fun u' h => ih (j + 1) u' (by omega) ?_)
    unfold sp_wB
    rw [wy_via hZ k a j]
    exact h
theorem c_saf {k : Nat} (hn : n ≤ 10) (hk : k < n) (ha : a < n) (hZ : wy_Z M) (hS : cw_S u0 u n M) (hp : ∀ u', cw_S u0 u' n (sp_wB M k a n) → pv u') : wp_X1_shortenAllFrom ms_E0 u 49 (nI a) (nI k) (nI n) pv := by
  unfold wp_X1_shortenAllFrom
  refine c_way (by omega) (by omega) ?_
  have b2 := hZ.2 a k
  rw [hS.2 a k ha hk]
  refine pk_lt (M a k) 1000000 (fun q => ⟨n + 1, c_saf19 hn hk ha hZ hp n 0 u (by omega) hS⟩) (fun q => hp u ?_)
  rw [wy_far hZ q]
  exact hS
theorem cw_town (hF : cw_F u0 u) (hR : sp_R (sp_T u0 2) D l) : sp_R (sp_T u 2) D l := sp_R_eq (fun i b hi => hF.1 _ b (by omega)) hR
theorem c_me117 {k106 : ms_St → Int32 → Prop} {k : Nat} (hV : sp_V D l) (hR : sp_R (sp_T u0 2) D l) (hk : k < D 0) (hZ : wy_Z M) (hp : ∀ u', cw_S u0 u' (D 0) (sp_wA (D 0) M k (D 0)) → k106 u' (nI (k + 1))) : ∀ m j u, j + m = D 0 → cw_S u0 u (D 0) (sp_wA (D 0) M k j) → wp_X1_measure_117 ms_E0 49 2 pv k106 (m + 1) u (nI k) (nI j) := by
  have c0 := hV.1.1
  intro m
  induction m with
  | zero =>
    intro j u hj hS
    have : j = D 0 := by omega
    subst this
    have e : ms_I u 2 0 = nI (D 0) := (cw_town hS.1 hR).1.1
    unfold wp_X1_measure_117
    rw [e, nI_1]
    exact ⟨fun _ => hp u hS, fun q => absurd (nI_le (Nat.le_refl _) (by omega)) q⟩
  | succ m ih =>
    intro j u hj hS
    have e : ms_I u 2 0 = nI (D 0) := (cw_town hS.1 hR).1.1
    unfold wp_X1_measure_117
    rw [e, nI_1 j]
    exact ⟨fun q => absurd q (nI_ge (by omega) (by omega)), fun _ => c_saf c0 hk (by omega) (wy_ZA hZ _ k j) hS (fun u' h => ih (j + 1) u' (by omega) h)⟩
theorem c_me106 (hV : sp_V D l) (hR : sp_R (sp_T u0 2) D l) (hZ : wy_Z M) (hp : ∀ u', cw_S u0 u' (D 0) (sp_wK (D 0) M (D 0)) → pv u') : ∀ m j u, j + m = D 0 → cw_S u0 u (D 0) (sp_wK (D 0) M j) → wp_X1_measure_106 ms_E0 49 2 pv (m + 1) u (nI j) := by
  have c0 := hV.1.1
  intro m
  induction m with
  | zero =>
    intro j u hj hS
    have : j = D 0 := by omega
    subst this
    have e : ms_I u 2 0 = nI (D 0) := (cw_town hS.1 hR).1.1
    unfold wp_X1_measure_106
    rw [e]
    exact ⟨fun _ => hp u hS, fun q => absurd (nI_le (Nat.le_refl _) (by omega)) q⟩
  | succ m ih =>
    intro j u hj hS
    have e : ms_I u 2 0 = nI (D 0) := (cw_town hS.1 hR).1.1
    unfold wp_X1_measure_106
    rw [e]
    exact ⟨fun q => absurd q (nI_ge (by omega) (by omega)), fun _ => ⟨D 0 + 1, c_me117 hV hR (by omega) (wy_ZK hZ _ j) (fun u' h => ih (j + 1) u' (by omega) h) _ 0 u (by omega) hS⟩⟩
theorem c_me37 (hV : sp_V D l) (hR : sp_R (sp_T u0 2) D l) (hp : ∀ u', cw_S u0 u' (D 0) (sp_W D) → pv u') : ∀ m j u, j + m = D 1 → cw_S u0 u (D 0) (sp_wS D sp_W0 j) → wp_X1_measure_37 ms_E0 49 2 pv (m + 1) u 3 (nI j) := by
  have c0 := hV.1.1
  have c1 := hV.1.2.1
  intro m
  induction m with
  | zero =>
    intro j u hj hS
    have : j = D 1 := by omega
    subst this
    have e : ms_I u 3 0 = nI (D 1) := (cw_town hS.1 hR).1.2.2.2.1
    unfold wp_X1_measure_37
    rw [e]
    exact ⟨fun _ => ⟨D 0 + 1, c_me106 hV hR (wy_ZS hV _ (Nat.le_refl _)) hp _ 0 u (by omega) hS⟩, fun q => absurd (nI_le (Nat.le_refl _) (by omega)) q⟩
  | succ m ih =>
    intro j u hj hS
    have hR' := cw_town hS.1 hR
    have e : ms_I u 3 0 = nI (D 1) := hR'.1.2.2.2.1
    have v := hV.2.1 j (by omega)
    have r := hR'.2.1 j (by omega)
    have r1 : ms_I u 4 j = nI (D (8 + 4 * j)) := r.1
    have r2 : ms_I u 5 j = nI (D (8 + 4 * j + 1)) := r.2.1
    have r3 : ms_I u 6 j = nI (D (8 + 4 * j + 2)) := r.2.2.1
    have r4 : ms_I u 7 j = nI (1 - D (8 + 4 * j + 3)) := r.2.2.2
    have ih9 := fun u' h => ih (j + 1) u' (by omega) h
    have zz := wy_ZS hV j (by omega)
    unfold sp_wS at ih9
    have hi : vp_in (nI j) 12 := vp_in_nI (by omega) (by omega)
    unfold wp_X1_measure_37 wp_X1_measure_98
    simp only [e, nI_1 j, nI_clamp (show j < 2 ^ 31 by omega), at_3_1, at_3_2, at_3_3, at_3_4, r1, r2, r3, r4]
    refine ⟨fun q => absurd q (nI_ge (by omega) (by omega)), fun _ => ⟨hi, pk_eq (1 - D (8 + 4 * j + 3)) 0 (fun q => ?_) (fun q => ⟨hi, hi, hi, ?_⟩)⟩⟩
    · rw [if_pos (by omega)] at ih9
      exact ih9 u hS
    · rw [if_neg (by omega)] at ih9
      have b1 := zz.2 (D (8 + 4 * j)) (D (8 + 4 * j + 1))
      have b2 := zz.2 (D (8 + 4 * j + 1)) (D (8 + 4 * j))
      refine c_shorten hS c0 v.1 v.2.1 (by omega) (by omega) (fun u' hS' => ⟨hi, hi, hi, ?_⟩)
      have r := (cw_town hS'.1 hR).2.1 j (by omega)
      have r1 : ms_I u' 4 j = nI (D (8 + 4 * j)) := r.1
      have r2 : ms_I u' 5 j = nI (D (8 + 4 * j + 1)) := r.2.1
      have r3 : ms_I u' 6 j = nI (D (8 + 4 * j + 2)) := r.2.2.1
      rw [r1, r2, r3]
      have e9 : ms_u2 (sp_wS D sp_W0 j) (D (8 + 4 * j)) (D (8 + 4 * j + 1)) (min (sp_wS D sp_W0 j (D (8 + 4 * j)) (D (8 + 4 * j + 1))) (D (8 + 4 * j + 2))) (D (8 + 4 * j + 1)) (D (8 + 4 * j)) = sp_wS D sp_W0 j (D (8 + 4 * j)) (D (8 + 4 * j + 1)) := by
        rw [u2_at, if_neg (by omega)]
        exact wy_sym j _ _
      refine c_shorten hS' c0 v.2.1 v.1 (by omega) (by omega) (fun u2 hS2 => ih9 u2 ?_)
      rw [e9] at hS2
      exact hS2
theorem c_measure (hV : sp_V D l) (hR : sp_R (sp_T u 2) D l) (hp : ∀ u', cw_S u u' (D 0) (sp_W D) → pv u') : wp_X1_measure ms_E0 u 49 2 pv := by
  have c0 := hV.1.1
  have c1 := hV.1.2.1
  unfold wp_X1_measure
  rw [at_49_0]
  refine J_fill n50 (by omega) (fun u1 h1 h2 h3 => ⟨11, ?_⟩)
  have st : ∀ m j w, j + m = 10 → cw_S u w 10 (dg_M j) → wp_X1_measure_11 ms_E0 49 2 pv (m + 1) w (nI j) := by
    intro m
    induction m with
    | zero =>
      intro j w hj hS
      have : j = 10 := by omega
      subst this
      unfold wp_X1_measure_11
      rw [at_2_3]
      refine ⟨fun _ => ⟨D 1 + 1, c_me37 hV hR hp _ 0 w (by omega) ⟨hS.1, fun a b ha hb => ?_⟩⟩, fun q => absurd (nI_le (a := 10) (Nat.le_refl _) (by decide)) q⟩
      rw [hS.2 a b (by omega) (by omega), dg_at]
      unfold sp_wS sp_W0
      by_cases e : a = b
      · rw [if_pos ⟨e, by omega⟩, if_pos e]
      · rw [if_neg (by omega), if_neg e]
    | succ m ih =>
      intro j w hj hS
      unfold wp_X1_measure_11
      rw [nI_1]
      refine ⟨fun q => absurd q (nI_ge (a := j) (b := 10) (by omega) (by decide)), fun _ => c_shorten (v := 0) hS (by omega) (by omega) (by omega) (by omega) (by rw [dg_at]; split <;> omega) (fun u' hS' => ih (j + 1) u' (by omega) ⟨hS'.1, fun a b ha hb => ?_⟩)⟩
      rw [hS'.2 a b ha hb, u2_at]
      congr 1
      simp only [dg_at]
      by_cases e : a = j ∧ b = j
      · rw [if_pos e, if_pos (show a = b ∧ a < j + 1 by omega)]; omega
      · rw [if_neg e]
        by_cases e2 : a = b ∧ a < j
        · rw [if_pos e2, if_pos (by omega)]
        · rw [if_neg e2, if_neg (by omega)]
  refine st 10 0 u1 (by omega) ⟨⟨h1, h2⟩, fun a b ha hb => ?_⟩
  rw [h3 _ (by omega), dg_at, if_neg (by omega)]
  rfl
theorem c_refreshRoutes (hV : sp_V D l) (hR : sp_R (sp_T u 2) D l) (hc : ¬ ms_I u 0 11 = 0 → sp_cw u D) (hp : ∀ u', (∀ a b, a ≠ 50 → ¬ (a = 0 ∧ b = 11) → ms_I u' a b = ms_I u a b) → ms_J u' = ms_J u → sp_cw u' D → pv u') : wp_X10_refreshRoutes ms_E0 u 0 pv := by
  unfold wp_X10_refreshRoutes wp_X10_refreshRoutes_23
  simp only [at_0_8, at_0_3]
  refine ⟨fun _ => c_measure hV hR (fun u' h => hp _ (fun a b q q2 => ?_) h.1.2 (fun a b ha hb => ?_)), fun q => hp u (fun _ _ _ _ => rfl) rfl (hc q)⟩
  · rw [I_sI, if_neg q2]; exact h.1.1 a b q
  · rw [I_sI, if_neg (by omega)]; exact h.2 a b ha hb
/-! reading it -/
theorem c_reach (hV : sp_V D l) (hR : sp_R (sp_T u 2) D l) (hW : sp_cw u D) (hc : c < D 0) (hh : h < D 2) (hp : post (nI (sp_fc D c h)) u) : wp_X1_reach ms_E0 u 49 2 (nI c) (nI h) post := by
  have c0 := hV.1.1
  have c1 := hV.1.2.1
  have c2 := hV.1.2.2.1
  have v := hV.2.2.1 h hh
  have vs := hV.2.1 _ v.1
  have e8 : ms_I u 8 0 = nI (D 2) := hR.1.2.2.2.2.1
  have e3 : ms_I u 3 0 = nI (D 1) := hR.1.2.2.2.1
  have r1 : ms_I u 9 h = nI (D (56 + 7 * h)) := (hR.2.2.1 h hh).1
  have r2 : ms_I u 10 h = nI (D (56 + 7 * h + 1)) := (hR.2.2.1 h hh).2.1
  have t := hR.2.1 _ v.1
  have t1 : ms_I u 4 (D (56 + 7 * h)) = _ := t.1
  have t2 : ms_I u 5 (D (56 + 7 * h)) = _ := t.2.1
  have t3 : ms_I u 6 (D (56 + 7 * h)) = _ := t.2.2.1
  have t4 : ms_I u 7 (D (56 + 7 * h)) = _ := t.2.2.2
  have hs : vp_in (nI (D (56 + 7 * h))) 12 := vp_in_nI (by omega) (by omega)
  have hih : vp_in (nI h) 16 := vp_in_nI (by omega) (by omega)
  have b1 := (wy_ZW hV).2 c (D (8 + 4 * D (56 + 7 * h)))
  have b2 := (wy_ZW hV).2 c (D (8 + 4 * D (56 + 7 * h) + 1))
  unfold wp_X1_reach wp_X1_reach_54
  rw [q_X0_has, at_2_4, e8, if_pos (good01 (by omega) hh)]
  refine ⟨fun q => absurd q (by decide), fun _ => ⟨hih, ?_⟩⟩
  rw [at_8_1, nI_clamp (by omega), r1]
  intro v31 e31
  subst e31
  rw [q_X5_has, at_2_3, e3, if_pos (good01 (by omega) v.1)]
  refine ⟨fun q => absurd q (by decide), fun _ => ⟨hs, ?_⟩⟩
  simp only [at_3_1, at_3_2, at_3_3, at_3_4, at_8_2, nI_clamp (show h < 2 ^ 31 by omega), nI_clamp (show D (56 + 7 * h) < 2 ^ 31 by omega), t1, t2, t3, t4, r2, forall_eq]
  unfold sp_fc at hp
  refine pk_eq (1 - D (8 + 4 * D (56 + 7 * h) + 3)) 0 (fun q => ?_) (fun q => ⟨hih, hs, ?_⟩)
  · rw [if_pos (by omega)] at hp; exact hp
  · rw [if_neg (by omega)] at hp
    refine c_way (by omega) (by omega) ⟨hs, ?_⟩
    rw [t2]
    refine c_way (by omega) (by omega) ⟨hs, ?_⟩
    rw [hW c _ hc vs.1, hW c _ hc vs.2.1, t3, nI_add, nI_add, pk_sub (by omega), nI_min' (by omega) (by omega), Nat.add_sub_assoc v.2.1]
    exact hp
theorem c_fromCrossing (hV : sp_V D l) (hR : sp_R (sp_T u 2) D l) (hW : sp_cw u D) (hc : c < D 0) (hh : h < D 2) (hp : post (sp_td (sp_fc D c h)) u) : wp_X1_fromCrossing ms_E0 u 49 2 (nI c) (nI h) post := by
  have b1 : sp_fc D c h < 2 ^ 31 := by
    have v := hV.2.2.1 h hh
    have vs := hV.2.1 _ v.1
    have := (wy_ZW hV).2 c (D (8 + 4 * D (56 + 7 * h)))
    unfold sp_fc
    split <;> omega
  unfold wp_X1_fromCrossing wp_X1_fromCrossing_22
  refine c_reach hV hR hW hc hh (pk_lt (sp_fc D c h) 1000000 (fun q => ?_) (fun q => ?_))
  · unfold sp_td at hp; rw [if_pos q] at hp; exact hp
  · unfold sp_td at hp; rw [if_neg (by omega)] at hp; exact hp
theorem nI_abs {x y : Nat} (hx : x < 2 ^ 30) (hy : y < 2 ^ 30) : (if 0 ≤ nI x - nI y then nI x - nI y else 0 - (nI x - nI y)) = nI (x - y + (y - x)) := by
  by_cases q : y ≤ x
  · rw [pk_sub q, if_pos (nI_pos' (by omega)), show x - y + (y - x) = x - y by omega]
  · have h0 : (0 : Int32).toInt = 0 := rfl
    rw [if_neg (by rw [Int32.le_iff_toInt_le, pk_sub_toInt hx hy, h0]; omega), Int32.zero_sub, Int32.neg_sub, pk_sub (by omega), show x - y + (y - x) = y - x by omega]
theorem fc_lt (hV : sp_V D l) (hh : h < D 2) : sp_fc D c h ≤ 1000099 := by
  have v := hV.2.2.1 h hh
  have vs := hV.2.1 _ v.1
  have := (wy_ZW hV).2 c (D (8 + 4 * D (56 + 7 * h)))
  unfold sp_fc
  split <;> omega
theorem bt_lt (hV : sp_V D l) (hg : g < D 2) (hh : h < D 2) : sp_bt D g h ≤ 1000300 := by
  have v := hV.2.2.1 g hg
  have vs := hV.2.1 _ v.1
  have v2 := hV.2.2.1 h hh
  have vs2 := hV.2.1 _ v2.1
  have := hV.1.2.2.2.2.1
  have f1 := fc_lt (c := D (8 + 4 * D (56 + 7 * g))) hV hh
  unfold sp_bt
  split
  · omega
  · split
    · omega
    · split
      · split <;> omega
      · omega
theorem c_between (hV : sp_V D l) (hR : sp_R (sp_T u 2) D l) (hW : sp_cw u D) (hg : g < D 2) (hh : h < D 2) (hp : post (sp_td (sp_bt D g h)) u) : wp_X1_betweenHouses ms_E0 u 49 2 (nI g) (nI h) post := by
  have c0 := hV.1.1
  have c1 := hV.1.2.1
  have c2 := hV.1.2.2.1
  have c4 := hV.1.2.2.2.2.1
  have v := hV.2.2.1 g hg
  have v2 := hV.2.2.1 h hh
  have vs := hV.2.1 _ v.1
  have vs2 := hV.2.1 _ v2.1
  have e8 : ms_I u 8 0 = nI (D 2) := hR.1.2.2.2.2.1
  have e3 : ms_I u 3 0 = nI (D 1) := hR.1.2.2.2.1
  have ec : ms_I u 2 1 = nI (D 4) := hR.1.2.1
  have r1 : ms_I u 9 g = nI (D (56 + 7 * g)) := (hR.2.2.1 g hg).1
  have r2 : ms_I u 10 g = nI (D (56 + 7 * g + 1)) := (hR.2.2.1 g hg).2.1
  have r3 : ms_I u 11 g = nI (D (56 + 7 * g + 2)) := (hR.2.2.1 g hg).2.2.1
  have s1 : ms_I u 9 h = nI (D (56 + 7 * h)) := (hR.2.2.1 h hh).1
  have s2 : ms_I u 10 h = nI (D (56 + 7 * h + 1)) := (hR.2.2.1 h hh).2.1
  have s3 : ms_I u 11 h = nI (D (56 + 7 * h + 2)) := (hR.2.2.1 h hh).2.2.1
  have t := hR.2.1 _ v.1
  have t1 : ms_I u 4 (D (56 + 7 * g)) = _ := t.1
  have t2 : ms_I u 5 (D (56 + 7 * g)) = _ := t.2.1
  have t3 : ms_I u 6 (D (56 + 7 * g)) = _ := t.2.2.1
  have t4 : ms_I u 7 (D (56 + 7 * g)) = _ := t.2.2.2
  have hs : vp_in (nI (D (56 + 7 * g))) 12 := vp_in_nI (by omega) (by omega)
  have hig : vp_in (nI g) 16 := vp_in_nI (by omega) (by omega)
  have hih : vp_in (nI h) 16 := vp_in_nI (by omega) (by omega)
  have f1 := fc_lt (c := D (8 + 4 * D (56 + 7 * g))) hV hh
  have f2 := fc_lt (c := D (8 + 4 * D (56 + 7 * g) + 1)) hV hh
  unfold sp_bt at hp
  unfold wp_X1_betweenHouses wp_X1_betweenHouses_31 wp_X1_betweenHouses_67 wp_X1_betweenHouses_200 wp_X1_betweenHouses_203 wp_X1_betweenHouses_216
  refine pk_eq g h (fun q => ?_) (fun q => ?_)
  · rw [if_pos q] at hp; exact hp
  rw [if_neg q] at hp
  rw [q_X0_has, at_2_4, e8, if_pos (good01 (by omega) hg)]
  refine ⟨fun q => absurd q (by decide), fun _ => ?_⟩
  rw [q_X0_has, e8, if_pos (good01 (by omega) hh)]
  refine ⟨fun q => absurd q (by decide), fun _ => ⟨hig, ?_⟩⟩
  rw [at_8_1, nI_clamp (show g < 2 ^ 31 by omega), r1]
  intro v40 e40
  subst e40
  rw [q_X5_has, at_2_3, e3, if_pos (good01 (by omega) v.1)]
  refine ⟨fun q => absurd q (by decide), fun _ => ⟨hs, ?_⟩⟩
  simp only [at_3_1, at_3_2, at_3_3, at_3_4, at_8_2, at_8_3, nI_clamp (show g < 2 ^ 31 by omega), nI_clamp (show h < 2 ^ 31 by omega), nI_clamp (show D (56 + 7 * g) < 2 ^ 31 by omega), t1, t2, t3, t4, r2, forall_eq]
  refine pk_eq (1 - D (8 + 4 * D (56 + 7 * g) + 3)) 0 (fun q => ?_) (fun q2 => ⟨hig, hs, hs, ?_⟩)
  · rw [if_pos (by omega)] at hp; exact hp
  refine c_reach hV hR hW vs.1 hh ⟨hs, ?_⟩
  rw [t2]
  refine c_reach hV hR hW vs.2.1 hh ⟨hih, ?_⟩
  rw [s1, s2, r2, r3, s3, ec, pk_sub v.2.1, nI_add, nI_add, nI_min' (by omega) (by omega), nI_abs (by omega) (by omega), nI_min' (by omega) (by omega)]
  refine pk_eq (D (56 + 7 * g)) (D (56 + 7 * h)) (fun q3 => ⟨hig, hih, hig, hih, ?_⟩) (fun q3 => ?_)
  · have q4 : ¬ (D (8 + 4 * D (56 + 7 * g) + 3) = 1 ∨ D (8 + 4 * D (56 + 7 * h) + 3) = 1) := by rw [← q3]; omega
    rw [if_neg q4, if_pos q3] at hp
    refine pk_eq (D (56 + 7 * g + 2)) (D (56 + 7 * h + 2)) (fun q5 => ?_) (fun q5 => ?_)
    · rw [if_pos q5] at hp
      rw [show (0 : Int32) = nI 0 from rfl, nI_add]
      refine pk_lt _ 1000000 (fun q6 => ?_) (fun q6 => ?_)
      · unfold sp_td at hp; rw [if_pos q6] at hp; exact hp
      · unfold sp_td at hp; rw [if_neg (by omega)] at hp; exact hp
    · rw [if_neg q5] at hp
      rw [nI_add]
      refine pk_lt _ 1000000 (fun q6 => ?_) (fun q6 => ?_)
      · unfold sp_td at hp; rw [if_pos q6] at hp; exact hp
      · unfold sp_td at hp; rw [if_neg (by omega)] at hp; exact hp
  · rw [if_neg q3] at hp
    by_cases q4 : D (8 + 4 * D (56 + 7 * h) + 3) = 1
    · rw [if_pos (Or.inr q4)] at hp
      have g1 : sp_fc D (D (8 + 4 * D (56 + 7 * g))) h = 1000000 := by unfold sp_fc; rw [if_pos q4]
      have g2 : sp_fc D (D (8 + 4 * D (56 + 7 * g) + 1)) h = 1000000 := by unfold sp_fc; rw [if_pos q4]
      refine pk_lt _ 1000000 (fun q6 => ?_) (fun q6 => ?_)
      · exact absurd q6 (by rw [g1, g2]; exact Nat.not_lt.mpr (Nat.le_min.mpr ⟨Nat.le_add_left _ _, Nat.le_add_left _ _⟩))
      · exact hp
    · rw [if_neg (by omega)] at hp
      refine pk_lt _ 1000000 (fun q6 => ?_) (fun q6 => ?_)
      · unfold sp_td at hp; rw [if_pos q6] at hp; exact hp
      · unfold sp_td at hp; rw [if_neg (by omega)] at hp; exact hp
end PX
