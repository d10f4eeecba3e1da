/-! ===== the reference: statements, the loop ===== -/
section ML
variable {B : Nat → Nat} {N q : Nat} {D : Nat → Nat} {l : List ms_Op} {u u0 : ms_St} {pv : ms_St → Prop} {post : Int32 → ms_St → Prop} {e : Nat × Nat} {a1 a2 : Int32}
theorem m_stmt (hB : bt_M u0 B N) (hz : mz u0 u B N q D) (hd : pw D l) (hp : mq_P u0 B N pv (pz_zb (pz_sm B N q D l) (pz_sc B N))) : wp_X11_statement ms_E0 u 233 pv := by
  have a6 := hd.1.2.2.2.2.2.2.2.1
  have a8 := hd.1.2.2.2.2.2.2.2.2.1
  have a9 := hd.1.2.2.2.2.2.2.2.2.2
  have hq := hz.2.1.1
  have hN := hB.1
  have hp := m_semi hB hp
  unfold wp_X11_statement wp_X11_statement_161
  refine m_next (bt_mg hz.1 hB) hz.2.1 (fun u1 hF1 h41 v9 e9 => ?_)
  have hz1 := mz_pq hz hF1 h41
  rw [h41] at e9
  subst e9
  unfold pz_sm at hp
  refine mT k24 (by decide) hB hz1 (fun c u2 hz2 => ?_) (fun c u2 hz2 => ?_)
  · rw [if_pos c] at hp
    exact ⟨fun z => absurd z (by decide), fun _ => m_streetR hB hz2 hd hp⟩
  rw [if_neg c] at hp
  refine ⟨fun _ => ?_, fun z => absurd rfl z⟩
  clear c
  refine mT k25 (by decide) hB hz2 (fun c u3 hz3 => ?_) (fun c u3 hz3 => ?_)
  · rw [if_pos c] at hp
    exact ⟨fun z => absurd z (by decide), fun _ => m_houseR hB hz3 hd hp⟩
  rw [if_neg c] at hp
  refine ⟨fun _ => ?_, fun z => absurd rfl z⟩
  clear c
  refine mT k27 (by decide) hB hz3 (fun c u4 hz4 => ?_) (fun c u4 hz4 => ?_)
  · rw [if_pos c] at hp
    exact ⟨fun z => absurd z (by decide), fun _ => m_walkerR hB hz4 hd hp⟩
  rw [if_neg c] at hp
  refine ⟨fun _ => ?_, fun z => absurd rfl z⟩
  clear c
  have l4 : Int32.toNatClampNeg 4 = 4 := rfl
  have l5 : Int32.toNatClampNeg 5 = 5 := rfl
  have l6 : Int32.toNatClampNeg 6 = 6 := rfl
  rw [at_233_9, l4, l5, l6]
  refine mT k28 (by decide) hB hz4 (fun c u5 hz5 => ?_) (fun c u5 hz5 => ?_)
  · rw [if_pos c] at hp
    refine ⟨fun z => absurd z (by decide), fun _ => m_once (Or.inl ⟨rfl, rfl⟩) hz5 hd (fun h u6 h6 => ?_) (fun h u6 hz6 => ?_)⟩
    · rw [if_pos h] at hp
      exact b_number (mb_b h6) ⟨vi 4 1613, hp _ (mb_w h6)⟩
    · rw [if_neg h] at hp
      exact mN (lo := 0) (hx := 10) hB hz6 (by omega) (by omega) rfl rfl _ hp (fun e r v hv hq => ⟨vi 4 1613, hq _ (mb_w hv)⟩) (fun v q' n1 hp u7 hz7 _ => ⟨vi 4 1613, hp _ (mz_w (k := 4) (v := v) hz7 (by omega) (by omega))⟩)
  rw [if_neg c] at hp
  refine ⟨fun _ => ?_, fun z => absurd rfl z⟩
  clear c
  refine mT k29 (by decide) hB hz5 (fun c u6 hz6 => ?_) (fun c u6 hz6 => ?_)
  · rw [if_pos c] at hp
    refine ⟨fun z => absurd z (by decide), fun _ => m_once (Or.inr ⟨rfl, rfl⟩) hz6 hd (fun h u7 h7 => ?_) (fun h u7 hz7 => ?_)⟩
    · rw [if_pos h] at hp
      exact b_number (mb_b h7) ⟨vi 5 1613, hp _ (mb_w h7)⟩
    · rw [if_neg h] at hp
      exact mN (lo := 0) (hx := 601) hB hz7 (by omega) (by omega) rfl rfl _ hp (fun e r v hv hq => ⟨vi 5 1613, hq _ (mb_w hv)⟩) (fun v q' n1 hp u8 hz8 _ => ⟨vi 5 1613, hp _ (mz_w (k := 5) (v := v) hz8 (by omega) (by omega))⟩)
  rw [if_neg c] at hp
  refine ⟨fun _ => ?_, fun z => absurd rfl z⟩
  clear c
  refine mT k30 (by decide) hB hz6 (fun c u7 hz7 => ?_) (fun c u7 hz7 => ?_)
  · rw [if_pos c] at hp
    refine ⟨fun z => absurd z (by decide), fun _ => ?_⟩
    have hle : q + 5 ≤ N := wd_pos hq (wk_mem k8) c
    have hz7 : mz u0 u7 B N (pz_s B N (q + 5)) D := hz7
    have g5 := hz7.2.2.2.2.1
    have e1 := (ob2 a8 a9 a6).1
    have e2 := (ob2 a8 a9 a6).2
    have K : ∀ a b v, ¬ (a = 233 ∧ b = 14) → ms_I (ms_sI u7 233 14 v) a b = ms_I u7 a b := fun a b v z => by rw [I_sI, if_neg z]
    unfold wp_X11_once wp_X11_once_19
    rw [g5, e1, e2]
    refine pk_eq (D 6) 1 (fun h => ?_) (fun h => ?_)
    · rw [if_pos h] at hp
      exact m_rep (c := 2) hz7 rfl (fun u8 h8 => ⟨vi 6 1613, b_sumS 6 _ _ (by omega) (mb_b (mb_w (mb_14 h8))) (hp _ (mb_w (mb_14 h8)))⟩)
    · rw [if_neg h] at hp
      have h0 : D 6 = 0 := by omega
      have h7 := (hd.2.2.2.2.2.2.1 h0).2
      refine ⟨vi 6 1613, ?_⟩
      generalize hv : ms_sI (ms_sI u7 233 14 (nI (D 2000 + 2 * D 2001 + 4 * 1))) 236 6 1 = v
      have KV : ∀ a b, ¬ (a = 233 ∧ b = 14) → a ≠ 236 → ms_I v a b = ms_I u7 a b := fun a b z1 z2 => by rw [← hv, h1_at z2, I_sI, if_neg z1]
      have KM : ∀ x, x < 1613 → ms_I v 236 x = nI (sp_u D 6 1 x) := fun x hx => by
        rw [← hv, h2_at, u_at]
        by_cases z : x = 6
        · rw [if_pos z, if_pos z]; rfl
        · rw [if_neg z, if_neg z, K _ _ _ (by omega)]; exact hz7.2.2.2.2.2 x hx
      have K14 : ms_I v 233 14 = nI (D 2000 + 2 * D 2001 + 4 * 1) := by rw [← hv, h1_at (by omega), I_sI, if_pos ⟨rfl, rfl⟩]
      have KF : mg_F u0 v := by rw [← hv]; exact mg_6 (mg_w hz7.1 (by omega))
      have KP : mp v B N (pz_s B N (q + 5)) := by
        obtain ⟨p1, P, p2, p3, p4⟩ := hz7.2.1
        exact ⟨p1, P, p2, by rw [KV _ _ (by omega) (by omega)]; exact p3, p4⟩
      have mF : ∀ {u' : ms_St}, mf_F v u' → mg_F u0 u' := fun h => ⟨fun a b z1 z2 => (h.1 a b z1 (by omega)).trans (KF.1 a b z1 z2), h.2.trans KF.2⟩
      refine m_sumS (u0 := v) (D := sp_u D 6 1) (bt_mg KF hB) 6 0 rfl (by omega) (pz_s B N (q + 5)) [] 0 v _ (s_le hle) (by omega) ⟨rfl, by simp [na]⟩ ⟨⟨fun _ _ _ _ => rfl, rfl⟩, KP, ⟨by rw [KV _ _ (by omega) (by omega)]; exact hz7.2.2.1.1, rfl⟩, by rw [KV _ _ (by omega) (by omega)]; exact hz7.2.2.2.1, fun k hk => ?_⟩ ?_
      · rw [KM k hk]
        unfold dr
        by_cases z : k = 7
        · rw [if_pos z, z, u_at, if_neg (by omega), h7]; rfl
        · rw [if_neg z, if_neg (by unfold sp_fl; simp)]
      · unfold pz_vi at hp
        cases hS : pz_S B N 6 0 (pz_s B N (q + 5)) [] with
        | inl e =>
          rw [hS] at hp
          intro u' x1 x2 x3
          exact hp u' ⟨mF x1, x2, x3⟩
        | inr x =>
          rw [hS] at hp
          intro u' hx
          obtain ⟨x1, x2, x3, x4, x5⟩ := hx
          have hlen : (sp_fl x.2).length ≤ 1400 := by
            obtain ⟨b1, b2, b3, b4, b5⟩ := S_ok 6 0 rfl (by omega) (pz_s B N (q + 5)) [] 0 (s_le hle) (by omega) ⟨rfl, by simp [na]⟩ x.1 x.2 hS
            have hcnt := wr_cnt _ _ _ b4
            have hlen := fl_len x.2
            omega
          refine hp u' ⟨mF x1, x2, ⟨x3.1, x3.2.trans (by rw [KV _ _ (by omega) (by omega)]; exact hz7.2.2.1.2)⟩, x4, ?_, x5⟩
          rw [x1.1 233 14 (by omega) (by omega), K14]
          have F : ∀ k, 1900 ≤ k → dr (sp_u D 6 1) (sp_fl x.2) k = D k := by
            intro k z
            unfold dr
            rw [if_neg (by omega), if_neg (by omega), u_at, if_neg (by omega)]
          have F6 : dr (sp_u D 6 1) (sp_fl x.2) 6 = 1 := by
            unfold dr
            rw [if_neg (by omega), if_neg (by omega), u_at, if_pos rfl]
          show _ = nI (dr (sp_u D 6 1) (sp_fl x.2) 2000 + 2 * dr (sp_u D 6 1) (sp_fl x.2) 2001 + 4 * dr (sp_u D 6 1) (sp_fl x.2) 6)
          rw [F 2000 (by omega), F 2001 (by omega), F6]
  · rw [if_neg c] at hp
    exact ⟨fun _ => m_rep (c := 2) hz7 rfl (fun u8 h8 => hp u8 h8), fun z => absurd rfl z⟩
theorem m_loop (hB : bt_M u0 B N) : ∀ n q D l u, mz u0 u B N q D → pw D l → N < q + n → mq_P u0 B N (fun v => wp_X11_load_157 ms_E0 233 a1 post v) (pz_lp B N n q D l) → wp_X11_load_135 ms_E0 233 a1 post (n + 1) u
  | 0, q, D, l, u, hz, hd, hn, hp => by have := hz.2.1.1; omega
  | n + 1, q, D, l, u, hz, hd, hn, hp => by
    have hN := hB.1
    have hqN := hz.2.1.1
    rw [lp_s] at hp
    unfold wp_X11_load_135
    refine g_yes hz.2.2.1.1 ⟨fun z => absurd z (by decide), fun _ => m_next (bt_mg hz.1 hB) hz.2.1 (fun u1 hF1 h41 => ?_)⟩
    have hz1 := mz_pq hz hF1 h41
    by_cases hq : N ≤ q
    · rw [if_pos hq] at hp
      have e1 : mzb (pz_at B N q) = -1 := by
        unfold pz_at
        rw [if_neg (by omega)]
        unfold mzb
        rw [if_neg (by omega)]
      rw [e1]
      exact ⟨fun _ => hp u1 hz1, fun z => absurd rfl z⟩
    · rw [if_neg hq] at hp
      have e1 : ¬ mzb (pz_at B N q) = -1 := by
        rw [at_lt (by omega)]
        have := (hB.2.2 q (by omega)).2
        unfold mzb
        rw [if_pos this]
        exact NO_ne (by omega)
      refine ⟨fun z => absurd z e1, fun _ => m_stmt hB hz1 hd ?_⟩
      have bad : ∀ e, (∀ u', mb u0 e u' → wp_X11_load_157 ms_E0 233 a1 post u') → ∀ u', mb u0 e u' → wp_X11_load_135 ms_E0 233 a1 post (n + 1) u' := fun e h u' hu => by
        unfold wp_X11_load_135
        exact g_no (mb_b hu) ⟨fun _ => h u' hu, fun z => absurd rfl z⟩
      cases hS : pz_sm B N q D l with
      | inl e => rw [hS] at hp; exact bad e hp
      | inr x =>
        rw [hS] at hp
        obtain ⟨xq, xD, xl⟩ := x
        obtain ⟨y1, y2, y3, y4⟩ := sm_ok hN hqN hd hS
        have hp : mq_P u0 B N (fun v => wp_X11_load_157 ms_E0 233 a1 post v) (pz_zb (pz_sc B N xq xD xl) (pz_lp B N n)) := hp
        show mq_P u0 B N _ (pz_sc B N xq xD xl)
        unfold pz_sc at hp ⊢
        by_cases c : pz_at B N xq = 59
        · rw [if_pos c] at hp ⊢
          have hlt : xq < N := by
            by_cases z : xq < N
            · exact z
            · unfold pz_at at c; rw [if_neg z] at c; omega
          have hge := s_ge (B := B) (p := xq + 1) (N := N) (by omega)
          exact fun u2 hz2 => m_loop hB n (pz_s B N (xq + 1)) xD xl u2 hz2 y4 (by omega) hp
        · rw [if_neg c] at hp ⊢
          exact bad (2, xq) hp
/-- the draft is emptied -/
theorem m_zero {pz : ms_St → Prop} (hp : ∀ u', fr 236 u0 u' → (∀ k, k < 1613 → ms_I u' 236 k = 0) → wp_X11_load_69 ms_E0 233 a1 post 1 u' (nI 1613)) : ∀ n j u, j + n = 1613 → fr 236 u0 u → (∀ k, k < j → ms_I u 236 k = 0) → wp_X11_load_69 ms_E0 233 a1 post (n + 1) u (nI j)
  | 0, j, u, hj, hF, hk => by
    have : j = 1613 := by omega
    subst this
    exact hp u hF hk
  | n + 1, j, u, hj, hF, hk => by
    unfold wp_X11_load_69
    rw [at_233_9, nI_clamp (show j < 2 ^ 31 by omega), nI_1 j]
    refine ⟨fun z => absurd z (nI_ge (b := 1613) (by omega) (by decide)), fun _ => ⟨vp_in_nI (by omega) (by omega), ?_⟩⟩
    refine m_zero (pz := pz) hp n (j + 1) _ (by omega) (fr_w hF) (fun k hk2 => ?_)
    rw [h2_at]
    by_cases z : k = j
    · rw [if_pos z]
    · rw [if_neg z]; exact hk k (by omega)
end ML
