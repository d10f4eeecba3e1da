/-! ===== the class: visits and the read as a whole ===== -/
section CL
variable {B : Nat → Nat} {N q : Nat} {D : Nat → Nat} {l : List ms_Op} {u u0 : ms_St} {pv : ms_St → Prop} {post : Int32 → ms_St → Prop}
theorem sm_l {q' : Nat} {D' : Nat → Nat} {l' : List ms_Op} (hN : N ≤ 900) (hq : q ≤ N) (he : pz_sm B N q D l = Sum.inr (q', D', l')) : l' = l ∨ l'.length ≤ 900 := by
  have inj : ∀ {x y : Nat} {D1 D2 : Nat → Nat} {l1 l2 : List ms_Op}, (Sum.inr (x, D1, l1) : ms_ZZ) = Sum.inr (y, D2, l2) → l2 = l1 := by
    intro x y D1 D2 l1 l2 e
    exact (congrArg (fun z => z.2.2) (Sum.inr.inj e)).symm
  unfold pz_sm at he
  by_cases c1 : pz_wd B N w_street q = true
  · rw [if_pos c1] at he
    by_cases c : D 1 = 12
    · rw [if_pos c] at he; cases he
    · rw [if_neg c] at he
      unfold pz_st at he
      obtain ⟨a, q2, n1, he⟩ := nb_inr he
      obtain ⟨b, q3, n2, he⟩ := nb_inr he
      by_cases cab : b = a
      · rw [if_pos cab] at he; cases he
      · rw [if_neg cab] at he
        obtain ⟨cc, q4, n3, he⟩ := nb_inr he
        exact Or.inl (inj he)
  rw [if_neg c1] at he
  by_cases c2 : pz_wd B N w_house q = true
  · rw [if_pos c2] at he
    by_cases c : D 2 = 16
    · rw [if_pos c] at he; cases he
    · rw [if_neg c] at he
      unfold pz_ho at he
      obtain ⟨s, q2, n1, he⟩ := nb_inr he
      obtain ⟨o, q3, n2, he⟩ := nb_inr he
      obtain ⟨sd, q4, n3, he⟩ := nb_inr he
      obtain ⟨p, q5, n4, he⟩ := nb_inr he
      obtain ⟨f, q6, n5, he⟩ := nb_inr he
      obtain ⟨t, q7, n6, he⟩ := nb_inr he
      by_cases cd : pz_wd B N w_dog q7 = true
      · rw [if_pos cd] at he; exact Or.inl (inj he)
      · rw [if_neg cd] at he; exact Or.inl (inj he)
  rw [if_neg c2] at he
  by_cases c3 : pz_wd B N w_walker q = true
  · rw [if_pos c3] at he
    by_cases c : D 3 = 3
    · rw [if_pos c] at he; cases he
    · rw [if_neg c] at he
      unfold pz_wa at he
      obtain ⟨a, q2, n1, he⟩ := nb_inr he
      obtain ⟨b, q3, n2, he⟩ := nb_inr he
      exact Or.inl (inj he)
  rw [if_neg c3] at he
  by_cases c4 : pz_wd B N w_cross q = true
  · rw [if_pos c4] at he
    by_cases c : D 2000 = 1
    · rw [if_pos c] at he; cases he
    · rw [if_neg c] at he
      obtain ⟨a, q2, n1, he⟩ := nb_inr he
      exact Or.inl (inj he)
  rw [if_neg c4] at he
  by_cases c5 : pz_wd B N w_gap q = true
  · rw [if_pos c5] at he
    by_cases c : D 2001 = 1
    · rw [if_pos c] at he; cases he
    · rw [if_neg c] at he
      obtain ⟨a, q2, n1, he⟩ := nb_inr he
      exact Or.inl (inj he)
  rw [if_neg c5] at he
  by_cases c6 : pz_wd B N w_visit q = true
  · rw [if_pos c6] at he
    have hle : q + 5 ≤ N := wd_pos hq (wk_mem k8) c6
    by_cases c : D 6 = 1
    · rw [if_pos c] at he; cases he
    · rw [if_neg c] at he
      unfold pz_vi at he
      cases hS : pz_S B N 6 0 (pz_s B N (q + 5)) [] with
      | inl e => rw [hS] at he; cases he
      | inr x =>
        rw [hS] at he
        have e := inj he
        obtain ⟨b1, b2, b3, b4, b5⟩ := S_ok 6 0 rfl (by omega) (pz_s B N (q + 5)) [] 0 (s_le hle) (by omega) ⟨rfl, by simp [na]⟩ x.1 x.2 hS
        have hcnt := wr_cnt _ _ _ b4
        have hlen := len_ab x.2
        rw [e]
        exact Or.inr (by omega)
  · rw [if_neg c6] at he; cases he
theorem lp_ok (hN : N ≤ 900) : ∀ n q D l q' D' l', q ≤ N → pw D l → l.length ≤ 900 → pz_lp B N n q D l = Sum.inr (q', D', l') → pw D' l' ∧ l'.length ≤ 900
  | 0, q, D, l, q', D', l', hq, hd, hl, he => by
    have e0 := Sum.inr.inj (show (Sum.inr (q, D, l) : ms_ZZ) = Sum.inr (q', D', l') from he)
    have e2 : D = D' := congrArg (fun z => z.2.1) e0
    have e3 : l = l' := congrArg (fun z => z.2.2) e0
    rw [← e2, ← e3]; exact ⟨hd, hl⟩
  | n + 1, q, D, l, q', D', l', hq, hd, hl, he => by
    rw [lp_s] at he
    by_cases h : N ≤ q
    · rw [if_pos h] at he
      have e0 := Sum.inr.inj he
      have e2 : D = D' := congrArg (fun z => z.2.1) e0
      have e3 : l = l' := congrArg (fun z => z.2.2) e0
      rw [← e2, ← e3]; exact ⟨hd, hl⟩
    · rw [if_neg h] at he
      obtain ⟨q1, D1, l1, h1, he⟩ := zb_inr he
      obtain ⟨q0, D0, l0, h0, h1⟩ := zb_inr h1
      obtain ⟨y1, y2, y3, y4⟩ := sm_ok hN hq hd h0
      have yl := sm_l hN hq h0
      unfold pz_sc at h1
      by_cases c : pz_at B N q0 = 59
      · rw [if_pos c] at h1
        have e0 := Sum.inr.inj h1
        have e1 : pz_s B N (q0 + 1) = q1 := congrArg Prod.fst e0
        have e2 : D0 = D1 := congrArg (fun z => z.2.1) e0
        have e3 : l0 = l1 := congrArg (fun z => z.2.2) e0
        have hlt : q0 < N := by
          by_cases z : q0 < N
          · exact z
          · unfold pz_at at c; rw [if_neg z] at c; omega
        refine lp_ok hN n q1 D1 l1 q' D' l' ?_ ?_ ?_ he
        · rw [← e1]; exact s_le (by omega)
        · rw [← e2, ← e3]; exact y4
        · rw [← e3]
          rcases yl with z | z
          · rw [z]; exact hl
          · exact z
      · rw [if_neg c] at h1; cases h1
theorem all_ok {q' : Nat} {D' : Nat → Nat} {l' : List ms_Op} (hN : N ≤ 900) (he : pz_all B N = Sum.inr (q', D', l')) : pw D' l' ∧ l'.length ≤ 900 := by
  unfold pz_all at he
  obtain ⟨q0, D0, l0, h0, h1⟩ := zb_inr he
  obtain ⟨y1, y2⟩ := hd_ok h0
  have e3 : l0.length ≤ 900 := by
    unfold pz_hd at h0
    by_cases c : pz_wd B N w_town (pz_s B N 0) = true
    · rw [if_pos c] at h0
      obtain ⟨v, q2, n1, h0⟩ := nb_inr h0
      unfold pz_sc at h0
      by_cases c2 : pz_at B N q2 = 59
      · rw [if_pos c2] at h0
        have e3 : [] = l0 := congrArg (fun z => z.2.2) (Sum.inr.inj h0)
        rw [← e3]
        exact Nat.zero_le _
      · rw [if_neg c2] at h0; cases h0
    · rw [if_neg c] at h0; cases h0
  exact lp_ok hN _ _ _ _ _ _ _ y1 y2 e3 h1
/-! the visits -/
theorem c_minutes {p g c : Nat} (hd : pw D l) (hlen : l.length ≤ 900) (hc : codes u l) (hp1 : p < 10000 ∧ g < 10000 ∧ c < 10000) (hp : ∀ u', vc_F u u' → post (nI (if D 6 = 0 then 10 else sp_min ((sp_ev p g c l []).headD 0))) u') : wp_X8_minutes ms_E0 u 46 (nI p) (nI g) (nI c) post := by
  have c6 := hd.1.2.2.2.2.2.2.2.1
  unfold wp_X8_minutes
  rw [hc.1]
  refine pk_eq l.length 0 (fun h => ?_) (fun h => ⟨l.length + 1, ?_⟩)
  · have hl : l = [] := List.eq_nil_of_length_eq_zero h
    have h6 : D 6 = 0 := by
      by_cases z : D 6 = 0
      · exact z
      · have := (hd.2.2.2.2.2.2.2 (by omega)).2.2.1
        rw [hl] at this
        have : (0 : Nat) = 1 := this
        omega
    rw [if_pos h6] at hp
    exact hp u ⟨fun _ _ _ => rfl, rfl⟩
  · have h6 : ¬ D 6 = 0 := fun z => h (by rw [(hd.2.2.2.2.2.2.1 z).1]; rfl)
    rw [if_neg h6] at hp
    have hw := (hd.2.2.2.2.2.2.2 (by omega)).2.2.1
    exact c_min hp1 hlen hc l u 0 [] (by omega) (fun j hj => by rw [Nat.zero_add]) hw (by simp) trivial ⟨fun _ _ _ => rfl, rfl⟩ hp
def sv_F (u0 u : ms_St) : Prop := (∀ a b, a ≠ 48 → a ≠ 38 → ms_I u a b = ms_I u0 a b) ∧ ms_J u = ms_J u0
def sv_V (D : Nat → Nat) (l : List ms_Op) (i : Nat) : Nat := sp_vis D l (i / 4) (i % 4 / 2) (i % 2 + 1)
theorem sv_in (hd : pw D l) (hlen : l.length ≤ 900) (hc : codes u0 l) (ht : tz (sp_T u0 24) D) {h : Nat} (hh : h < D 2) {k2 : ms_St → Int32 → Prop} : ∀ n j u, j + n = 4 → sv_F u0 u → (∀ i, i < h * 4 + j → ms_I u 38 i = nI (sv_V D l i)) → (∀ u', sv_F u0 u' → (∀ i, i < (h + 1) * 4 → ms_I u' 38 i = nI (sv_V D l i)) → k2 u' (nI (h + 1))) → wp_X0_setVisits_12 ms_E0 30 46 pv k2 (n + 1) u (nI h) (nI j)
  | 0, j, u, hj, hF, hV, hp => by
    unfold wp_X0_setVisits_12
    rw [nI_1 h]
    exact ⟨fun _ => hp u hF (fun i hi => hV i (by omega)), fun z => absurd (nI_le (a := 4) (by omega) (by omega)) z⟩
  | n + 1, j, u, hj, hF, hV, hp => by
    have c2 := hd.1.2.2.2.1
    have hq := (hd.2.2.2.1 h hh).2.2.2.1
    have e34 : ms_I u 34 h = nI (D (56 + 7 * h + 3)) := by
      rw [hF.1 34 h (by omega) (by omega)]
      exact (ht.2.2.1 h hh).2.2.2.1
    have s1 : (nI j >>> (1 &&& 31) : Int32) = nI (j / 2) := by
      have : j = 0 ∨ j = 1 ∨ j = 2 ∨ j = 3 := by omega
      rcases this with rfl | rfl | rfl | rfl <;> decide
    have s2 : ((nI j &&& 1) + 1 : Int32) = nI (j % 2 + 1) := by
      have : j = 0 ∨ j = 1 ∨ j = 2 ∨ j = 3 := by omega
      rcases this with rfl | rfl | rfl | rfl <;> decide
    have s3 : (nI h * 4 + nI j : Int32) = nI (h * 4 + j) := by
      rw [lit_I 4, pk_mul, nI_add]
    unfold wp_X0_setVisits_12
    rw [at_30_4, at_30_8, s1, s2, s3, nI_clamp (show h < 2 ^ 31 by omega), nI_clamp (show h * 4 + j < 2 ^ 31 by omega), e34, nI_1 j]
    refine ⟨fun z => absurd z (nI_ge (b := 4) (by omega) (by omega)), fun _ => ⟨vp_in_nI (by omega) (by omega), ?_⟩⟩
    refine c_minutes hd hlen ⟨by rw [hF.1 46 1 (by omega) (by omega)]; exact hc.1, fun i hi => by rw [hF.1 47 i (by omega) (by omega)]; exact hc.2 i hi⟩ (by omega) (fun u1 hF1 => ⟨vp_in_nI (by omega) (by omega), ?_⟩)
    refine sv_in hd hlen hc ht hh n (j + 1) _ (by omega) ⟨fun a b z1 z2 => ?_, hF1.2.trans hF.2⟩ (fun i hi => ?_) hp
    · rw [I_sI, if_neg (by omega), hF1.1 a b z1]; exact hF.1 a b z1 z2
    · rw [h2_at]
      by_cases z : i = h * 4 + j
      · rw [if_pos z, z]
        unfold sv_V sp_vis
        rw [show (h * 4 + j) / 4 = h by omega, show (h * 4 + j) % 4 / 2 = j / 2 by omega, show (h * 4 + j) % 2 = j % 2 by omega]
      · rw [if_neg z, hF1.1 38 i (by omega)]
        exact hV i (by omega)
theorem sv_out (hd : pw D l) (hlen : l.length ≤ 900) (hc : codes u0 l) (ht : tz (sp_T u0 24) D) (hp : ∀ u', sv_F u0 u' → (∀ i, i < D 2 * 4 → ms_I u' 38 i = nI (sv_V D l i)) → pv u') : ∀ n h u, h + n = D 2 → sv_F u0 u → (∀ i, i < h * 4 → ms_I u 38 i = nI (sv_V D l i)) → wp_X0_setVisits_2 ms_E0 30 46 pv (n + 1) u (nI h)
  | 0, h, u, hj, hF, hV => by
    have c2 := hd.1.2.2.2.1
    unfold wp_X0_setVisits_2
    rw [hF.1 30 0 (by omega) (by omega), show ms_I u0 30 0 = nI (D 2) from ht.1.2.2.2.2.1]
    exact ⟨fun _ => hp u hF (fun i hi => hV i (by omega)), fun z => absurd (nI_le (by omega) (by omega)) z⟩
  | n + 1, h, u, hj, hF, hV => by
    have c2 := hd.1.2.2.2.1
    unfold wp_X0_setVisits_2
    rw [hF.1 30 0 (by omega) (by omega), show ms_I u0 30 0 = nI (D 2) from ht.1.2.2.2.2.1]
    refine ⟨fun z => absurd z (nI_ge (by omega) (by omega)), fun _ => ⟨4 + 1, ?_⟩⟩
    exact sv_in hd hlen hc ht (by omega) 4 0 u (by omega) hF (fun i hi => hV i (by omega)) (fun u' hF' hV' => sv_out hd hlen hc ht hp n (h + 1) u' (by omega) hF' hV')
theorem tz_R {T : Nat → Nat → Int32} (hd : pw D l) (ht : tz T D) (hv : ∀ i, i < D 2 * 4 → T 14 i = nI (sv_V D l i)) : sp_R T D l := by
  obtain ⟨⟨x0, x1, x2, x3, x4, x5⟩, hs, hh, hw⟩ := ht
  have c1 := hd.1.2.2.1
  have c3 := hd.1.2.2.2.2.1
  refine ⟨⟨x0, x1, fun _ => x2, x3, x4, x5⟩, fun s z => ?_, fun h z => ?_, fun w z => ?_⟩
  · obtain ⟨y1, y2, y3, y4⟩ := hs s z
    exact ⟨y1, y2, y3, by rw [y4, hd.2.2.1 s (by omega)]; rfl⟩
  · obtain ⟨y1, y2, y3, y4, y5, y6, y7⟩ := hh h z
    refine ⟨y1, y2, y3, y4, y5, y6, y7, fun g c hg hc => ?_⟩
    rw [hv _ (by omega)]
    unfold sv_V
    rw [show (h * 4 + 2 * g + c) / 4 = h by omega, show (h * 4 + 2 * g + c) % 4 / 2 = g by omega, show (h * 4 + 2 * g + c) % 2 = c by omega]
  · obtain ⟨y1, y2, y3⟩ := hw w z
    have e := hd.2.2.2.2.2.1 w (by omega)
    refine ⟨y1, y2, by rw [y3, e]; rfl, fun k hk => ?_⟩
    rw [e] at hk
    omega
/-! the read -/
def cr_P (u0 : ms_St) (post : Int32 → ms_St → Prop) : ms_ZZ → Prop
  | Sum.inl e => ∀ u', cg_F u0 u' → ms_I u' 23 1 = nI e.2 → post (er e.1) u'
  | Sum.inr x => ∀ u', cg_F u0 u' → ms_I u' 23 1 = -1 → pw x.2.1 x.2.2 → sp_R (sp_T u' 24) x.2.1 x.2.2 → post 0 u'
theorem c_read (hB : bt_C u B N) (hp : cr_P u post (pz_all B N)) : wp_X3_read ms_E0 u 23 1 (nI N) post := by
  have hN := hB.1
  unfold wp_X3_read wp_X7_clear wp_X8_clear
  rw [at_23_0, at_23_3, at_23_4, at_24_3, at_24_4, at_24_5]
  intro w29 e29
  unfold wp_X6_begin
  refine ⟨by omega, fun w17 e17 => ?_⟩
  rw [n1, if_neg (nI_nlt (a := 900) hN (by decide))] at e17
  have K : ∀ a b, ¬ (23 ≤ a ∧ a ≤ 48) → ms_I w17 a b = ms_I u a b := fun a b z => by
    rw [e17, h1_at (by omega), h1_at (by omega), h1_at (by omega), h1_at (by omega), h1_at (by omega), h1_at (by omega), h1_at (by omega), h1_at (by omega), h1_at (by omega), h1_at (by omega), e29, h1_at (by omega), h1_at (by omega), h1_at (by omega), h1_at (by omega), h1_at (by omega)]
  have KJ : ms_J w17 = ms_J u := by rw [e17, J_sI, J_sI, J_sI, J_sI, J_sI, J_sI, J_sI, J_sI, J_sI, J_sI, e29, J_sI, J_sI, J_sI, J_sI, J_sI]
  have KF : cg_F u w17 := ⟨K, KJ⟩
  have f3 : ms_I w17 44 3 = nI 1 := by rw [e17, h2_at, if_neg (by omega), h2_at, if_neg (by omega), h2_at, if_pos rfl]
  have f4 : ms_I w17 44 4 = nI N := by rw [e17, h2_at, if_neg (by omega), h2_at, if_pos rfl]
  have f5 : ms_I w17 44 5 = nI 0 := by rw [e17, h2_at, if_pos rfl]; rfl
  refine c_advance (cg_B KF hB) (Nat.zero_le N) f3 f4 f5 (fun u1 hF1 ht1 => ?_)
  have G23 : ms_I w17 23 1 = -1 ∧ ms_I w17 23 2 = 0 ∧ ms_I w17 23 5 = 0 ∧ ms_I w17 23 6 = 0 ∧ ms_I w17 23 7 = 0 := by
    rw [e17]
    refine ⟨?_, ?_, ?_, ?_, ?_⟩ <;> (rw [h1_at (by omega), h1_at (by omega), h1_at (by omega)]; simp [h1_at, h2_at])
  have G24 : ms_I w17 24 0 = 0 ∧ ms_I w17 24 1 = 0 ∧ ms_I w17 24 2 = 60 ∧ ms_I w17 25 0 = 0 ∧ ms_I w17 30 0 = 0 ∧ ms_I w17 39 0 = 0 ∧ ms_I w17 46 1 = 0 := by
    rw [e17, e29]
    simp [h1_at, h2_at]
  have hz : cz u u1 B N (pz_s B N 0) Dz [] := by
    refine ⟨cg_fr KF hF1 (by omega), s_le (Nat.zero_le N), ht1, ⟨?_, fun i hi => absurd hi (Nat.not_lt_zero i)⟩, ⟨?_, ?_⟩, ⟨⟨?_, ?_, ?_, ?_, ?_, ?_⟩, fun s z => absurd z (Nat.not_lt_zero s), fun s z => absurd z (Nat.not_lt_zero s), fun s z => absurd z (Nat.not_lt_zero s)⟩, ?_, ?_, ?_⟩
    · rw [hF1.1 46 1 (by omega)]; exact G24.2.2.2.2.2.2
    · rw [hF1.1 23 2 (by omega)]; exact G23.2.1
    · rw [hF1.1 23 1 (by omega)]; exact G23.1
    · unfold sp_T; rw [hF1.1 _ _ (by omega)]; exact G24.1
    · unfold sp_T; rw [hF1.1 _ _ (by omega)]; exact G24.2.1
    · unfold sp_T; rw [hF1.1 _ _ (by omega)]; exact G24.2.2.1
    · unfold sp_T; rw [hF1.1 _ _ (by omega)]; exact G24.2.2.2.1
    · unfold sp_T; rw [hF1.1 _ _ (by omega)]; exact G24.2.2.2.2.1
    · unfold sp_T; rw [hF1.1 _ _ (by omega)]; exact G24.2.2.2.2.2.1
    · rw [hF1.1 23 5 (by omega)]; exact G23.2.2.1
    · rw [hF1.1 23 6 (by omega)]; exact G23.2.2.2.1
    · rw [hF1.1 23 7 (by omega)]; exact G23.2.2.2.2
  have bad : ∀ {v : ms_St} {e : Nat × Nat}, pz_all B N = Sum.inl e → cg_F u v → ms_I v 23 2 = er e.1 → ms_I v 23 1 = nI e.2 → wp_X3_read_106 ms_E0 23 1 (nI N) post v 0 := by
    intro v e he h1 h2 h3
    rw [he] at hp
    unfold wp_X3_read_106 wp_X3_read_124
    refine ⟨fun _ => ?_, fun z => absurd rfl z⟩
    rw [h2]
    exact hp v h1 h3
  refine c_head hB hz ?_
  cases hH : pz_hd B N with
  | inl e =>
    intro u2 x1 x2 x3
    have he : pz_all B N = Sum.inl e := by unfold pz_all; rw [hH]; rfl
    have b := bad he x1 x2 x3
    refine ⟨1, ?_⟩
    unfold wp_X3_read_56
    exact ⟨fun _ => b, fun _ => ⟨fun _ => b, fun z => absurd rfl z⟩⟩
  | inr x =>
    intro u2 hz2
    obtain ⟨y1, y2⟩ := hd_ok hH
    have he : pz_all B N = pz_lp B N (N + 1) x.1 x.2.1 x.2.2 := by unfold pz_all; rw [hH]; rfl
    refine ⟨N + 1 + 1, ?_⟩
    refine c_loop hB (N + 1) 0 x.1 x.2.1 x.2.2 u2 hz2 y2 (Nat.zero_le _) (by omega) ?_
    rw [← he]
    cases hA : pz_all B N with
    | inl e => exact fun u3 x1 x2 x3 => bad hA x1 x2 x3
    | inr y =>
      obtain ⟨yq, yD, yl⟩ := y
      intro u3 hz3
      obtain ⟨v1, v2⟩ := all_ok hN hA
      rw [hA] at hp
      unfold wp_X3_read_106 wp_X3_read_124
      rw [at_23_0, at_24_4, at_23_4]
      refine ⟨fun z => absurd z (by decide), fun _ => ?_⟩
      refine ⟨yD 2 + 1, sv_out v1 v2 hz3.2.2.2.1 hz3.2.2.2.2.2.1 (fun u4 hF4 hV4 => ?_) (yD 2) 0 u3 (by omega) ⟨fun _ _ _ _ => rfl, rfl⟩ (fun i hi => by omega)⟩
      rw [hF4.1 23 2 (by omega) (by omega), hz3.2.2.2.2.1.1]
      refine hp u4 ⟨fun a b z => (hF4.1 a b (by omega) (by omega)).trans (hz3.1.1 a b z), hF4.2.trans hz3.1.2⟩ (by rw [hF4.1 23 1 (by omega) (by omega)]; exact hz3.2.2.2.2.1.2) v1 (tz_R v1 ?_ hV4)
      have G := hz3.2.2.2.2.2.1
      refine ⟨?_, fun s z => ?_, fun h z => ?_, fun w z => ?_⟩
      · unfold sp_T
        rw [hF4.1 _ _ (by omega) (by omega), hF4.1 _ _ (by omega) (by omega), hF4.1 _ _ (by omega) (by omega), hF4.1 _ _ (by omega) (by omega), hF4.1 _ _ (by omega) (by omega), hF4.1 _ _ (by omega) (by omega)]
        exact G.1
      · unfold sp_T
        rw [hF4.1 _ _ (by omega) (by omega), hF4.1 _ _ (by omega) (by omega), hF4.1 _ _ (by omega) (by omega), hF4.1 _ _ (by omega) (by omega)]
        exact G.2.1 s z
      · unfold sp_T
        rw [hF4.1 _ _ (by omega) (by omega), hF4.1 _ _ (by omega) (by omega), hF4.1 _ _ (by omega) (by omega), hF4.1 _ _ (by omega) (by omega), hF4.1 _ _ (by omega) (by omega), hF4.1 _ _ (by omega) (by omega), hF4.1 _ _ (by omega) (by omega)]
        exact G.2.2.1 h z
      · unfold sp_T
        rw [hF4.1 _ _ (by omega) (by omega), hF4.1 _ _ (by omega) (by omega), hF4.1 _ _ (by omega) (by omega)]
        exact G.2.2.2 w z
end CL
