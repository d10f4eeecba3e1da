/-! ===== load ===== -/
def ml_F (u u' : ms_St) : Prop := (∀ a b, a ≠ 236 → ¬ (a = 233 ∧ (b = 0 ∨ b = 2 ∨ b = 3 ∨ b = 4 ∨ b = 5 ∨ b = 6 ∨ b = 12 ∨ b = 13 ∨ b = 14)) → ms_I u' a b = ms_I u a b) ∧ ms_J u' = ms_J u ∧ ms_I u' 233 0 = 0 ∧ ms_I u' 233 2 = nI 0
def lq_P (u : ms_St) (pv : ms_St → Prop) : ms_ZZ → Prop
  | Sum.inl e => ∀ u', ml_F u u' → ms_I u' 233 5 = er e.1 → ms_I u' 233 6 = nI e.2 → pv u'
  | Sum.inr x => ∀ u', ml_F u u' → ms_I u' 233 5 = 0 → ms_I u' 233 6 = -1 → sp_M u' 236 x.2.1 → pv u'
section LO
theorem h1_b {u : ms_St} {o n y : Nat} {v : Int32} (h : y ≠ n) : ms_I (ms_sI u o n v) o y = ms_I u o y := by rw [h2_at, if_neg h]
variable {B : Nat → Nat} {N bl : Nat} {u : ms_St} {post : Int32 → ms_St → Prop}
theorem m_load (hN : N ≤ bl) (hb9 : bl ≤ 900) (h2 : ms_I u 233 2 = nI bl) (hb : ∀ k, k < N → ms_I u 234 k = nI (B k) ∧ B k < 256) (hp : lq_P u (fun v => wp_X11_load_157 ms_E0 233 (nI N) post v) (pz_all B N)) : wp_X11_load ms_E0 u 233 (nI N) post := by
  unfold wp_X11_load
  rw [q_X11_in, h1_b (by omega), h2, if_pos ⟨nI_le (a := 0) (by omega) (by omega), nI_le (by omega) (by omega)⟩]
  refine ⟨fun z => absurd z (by decide), fun _ => ?_⟩
  unfold wp_X11_load_23
  refine fails_ok (by rw [I_sI, if_pos ⟨rfl, rfl⟩]) ⟨fun _ w59 e59 => ?_, fun z => absurd rfl z⟩
  generalize hv : ms_sI w59 233 14 0 = v
  have F : ∀ a b, ¬ (a = 233 ∧ (b = 0 ∨ b = 2 ∨ b = 3 ∨ b = 4 ∨ b = 5 ∨ b = 6 ∨ b = 13 ∨ b = 14)) → ms_I v a b = ms_I u a b := fun a b z => by
    rw [← hv, I_sI, if_neg (by omega), e59, I_sI, if_neg (by omega), I_sI, if_neg (by omega), I_sI, if_neg (by omega), I_sI, if_neg (by omega), I_sI, if_neg (by omega), I_sI, if_neg (by omega), I_sI, if_neg (by omega)]
  have FJ : ms_J v = ms_J u := by rw [← hv, J_sI, e59, J_sI, J_sI, J_sI, J_sI, J_sI, J_sI, J_sI]
  have f0 : ms_I v 233 0 = 0 := by rw [← hv, h2_at, if_neg (by omega), e59, h2_at, if_neg (by omega), h2_at, if_neg (by omega), h2_at, if_neg (by omega), h2_at, if_neg (by omega), h2_at, if_neg (by omega), h2_at, if_neg (by omega), h2_at, if_pos rfl]
  have f2 : ms_I v 233 2 = nI 0 := by rw [← hv, h2_at, if_neg (by omega), e59, h2_at, if_neg (by omega), h2_at, if_neg (by omega), h2_at, if_neg (by omega), h2_at, if_neg (by omega), h2_at, if_neg (by omega), h2_at, if_pos rfl]; rfl
  have f3 : ms_I v 233 3 = nI N := by rw [← hv, h2_at, if_neg (by omega), e59, h2_at, if_neg (by omega), h2_at, if_neg (by omega), h2_at, if_neg (by omega), h2_at, if_neg (by omega), h2_at, if_pos rfl]
  have f4 : ms_I v 233 4 = nI 0 := by rw [← hv, h2_at, if_neg (by omega), e59, h2_at, if_neg (by omega), h2_at, if_neg (by omega), h2_at, if_neg (by omega), h2_at, if_pos rfl]; rfl
  have f5 : ms_I v 233 5 = 0 := by rw [← hv, h2_at, if_neg (by omega), e59, h2_at, if_neg (by omega), h2_at, if_neg (by omega), h2_at, if_pos rfl]
  have f6 : ms_I v 233 6 = -1 := by rw [← hv, h2_at, if_neg (by omega), e59, h2_at, if_neg (by omega), h2_at, if_pos rfl]
  have f13 : ms_I v 233 13 = nI 0 := by rw [← hv, h2_at, if_neg (by omega), e59, h2_at, if_pos rfl]; rfl
  have f14 : ms_I v 233 14 = nI 0 := by rw [← hv, h2_at, if_pos rfl]; rfl
  have hB : bt_M v B N := ⟨by omega, f3, fun k hk => by rw [F 234 k (by omega)]; exact hb k hk⟩
  have tr : ∀ {u' : ms_St}, mg_F v u' → ml_F u u' := fun h => ⟨fun a b z1 z2 => (h.1 a b z1 (by omega)).trans (F a b (by omega)), h.2.trans FJ, (h.1 233 0 (by omega) (by omega)).trans f0, (h.1 233 2 (by omega) (by omega)).trans f2⟩
  have bad : ∀ e, pz_all B N = Sum.inl e → ∀ u', mb v e u' → wp_X11_load_157 ms_E0 233 (nI N) post u' := fun e he u' h => by
    rw [he] at hp
    exact hp u' (tr h.1) h.2.1 h.2.2
  have H : mq_P v B N (fun w => ∃ n135, wp_X11_load_135 ms_E0 233 (nI N) post n135 w) (pz_hd B N) := by
    cases hH : pz_hd B N with
    | inl e =>
      have he : pz_all B N = Sum.inl e := by unfold pz_all; rw [hH]; rfl
      intro u' h
      refine ⟨1, ?_⟩
      unfold wp_X11_load_135
      exact g_no (mb_b h) ⟨fun _ => bad e he u' h, fun z => absurd rfl z⟩
    | inr x =>
      obtain ⟨xq, xD, xl⟩ := x
      obtain ⟨y1, y2⟩ := hd_ok hH
      have he : pz_all B N = pz_lp B N (N + 1) xq xD xl := by unfold pz_all; rw [hH]; rfl
      intro u' hz
      refine ⟨N + 1 + 1, m_loop hB (N + 1) xq xD xl u' hz y2 (by omega) ?_⟩
      rw [← he]
      cases hA : pz_all B N with
      | inl e => exact bad e hA
      | inr y =>
        rw [hA] at hp
        intro u2 hz2
        exact hp u2 (tr hz2.1) hz2.2.2.1.1 hz2.2.2.1.2 hz2.2.2.2.2.2
  refine ⟨1613 + 1, m_zero (u0 := v) (pz := fun _ => True) (fun u1 hF1 h1 => ?_) 1613 0 v (by omega) ⟨fun _ _ _ => rfl, rfl⟩ (fun k hk => absurd hk (Nat.not_lt_zero k))⟩
  unfold wp_X11_load_69 wp_X11_load_116
  rw [at_233_9, show Int32.toNatClampNeg 5 = 5 from rfl, show Int32.toNatClampNeg 0 = 0 from rfl]
  refine ⟨fun _ => ⟨vi 5 1613, ?_⟩, fun z => absurd (by decide) z⟩
  have hz : mz v (ms_sI u1 236 5 60) B N (pz_s B N 0) Dz := by
    have K : ∀ b, ms_I (ms_sI u1 236 5 60) 233 b = ms_I v 233 b := fun b => by rw [h1_at (by omega)]; exact hF1.1 233 b (by omega)
    refine ⟨mg_6 ⟨fun a b z1 z2 => hF1.1 a b z1, hF1.2⟩, ⟨s_le (Nat.zero_le N), 0, Nat.zero_le N, by rw [K]; exact f4, rfl⟩, by rw [K, K]; exact ⟨f5, f6⟩, by rw [K]; exact f13, by rw [K]; exact f14, fun k hk => ?_⟩
    rw [h2_at]
    unfold Dz
    by_cases z : k = 5
    · rw [if_pos z, if_pos z]; rfl
    · rw [if_neg z, if_neg z]; exact h1 k hk
  unfold pz_hd at H
  refine m_takeWord k23 (by decide) (bt_mg hz.1 hB) hz.2.1 hz.2.2.1.1 (fun c u2 hF2 h42 => ?_) (fun c u2 hF2 h42 => ?_)
  · rw [if_pos c] at H
    have hle : pz_s B N 0 + 4 ≤ N := wd_pos hz.2.1.1 (wk_mem k1) c
    have hz2 : mz v u2 B N (pz_s B N (pz_s B N 0 + 4)) Dz := mz_pf hz hF2 h42 hle
    refine ⟨fun z => absurd z (by decide), fun _ => ?_⟩
    refine mN (lo := 1) (hx := 11) hB hz2 (by omega) (by omega) rfl rfl _ H (fun e r w hw hq => ⟨vi 0 1613, b_expect (mb_b (mb_w hw)) (hq _ (mb_w hw))⟩) (fun x q' n1 H u3 hz3 _ => ⟨vi 0 1613, ?_⟩)
    exact m_semi hB (r := Sum.inr (q', sp_u Dz 0 x, [])) H _ (mz_w (k := 0) (v := x) hz3 (by omega) (by omega))
  · rw [if_neg c] at H
    refine ⟨fun _ => ?_, fun z => absurd rfl z⟩
    rw [h42]
    exact m_rep (c := 2) (mz_pq hz hF2 h42) rfl (fun u3 h3 => b_number (mb_b h3) ⟨vi 0 1613, b_expect (mb_b (mb_w h3)) (H _ (mb_w h3))⟩)
theorem sp_Inv_ld {D : Nat → Nat} {l : List ms_Op} {n q : Nat} {P : Nat → Nat → Nat} {Q : Nat → List ms_Op} (hV : sp_V D l) (hM : sp_M u 235 D) (hT : sp_R (sp_T u 2) D l) (hPC : sp_PC u n q P Q) (hPM : sp_PM u n P) (hPV : ∀ j, j < n → sp_V (P j) (Q j)) (b1 : ms_I u 0 1 = nI 0) (b2 : ms_I u 233 2 = nI 0) (he : ms_I u 0 2 = ms_I u 233 7) (hCa : sp_Ca u D l) : sp_Inv u :=
  ⟨D, l, ⟨hV, hM, hT, ⟨n, q, P, Q, hPC.1, hPC.2.1, hPC.2.2.1, hPC.2.2.2.1, hPM.1, fun j hj => ⟨hPV j hj, hPM.2 j hj, hPC.2.2.2.2 j hj⟩⟩, ⟨0, by omega, b1, b2, fun k hk => absurd hk (Nat.not_lt_zero k)⟩, he⟩, hCa⟩
theorem p_case_1 {Ln i : Nat} {xs : Nat → Int32} {k : ms_St → Prop} (h : sp_Inv u) (hL : Ln ≤ 3072) (hi : i + 6 ≤ Ln) (hk : ∀ u', sp_Inv u' → k u') : wp_case_1 ms_E0 Ln xs 0 233 529 (nI i) k u := by
  obtain ⟨D, l, h0, hc⟩ := h
  have hV := h0.1
  have hM := h0.2.1
  have hR := h0.2.2.1
  obtain ⟨n, q, P, Q, hPa⟩ := h0.2.2.2.1
  obtain ⟨hPC, hPM, hPV⟩ := sp_Pa_split hPa
  have hn := hPC.1
  obtain ⟨bl, hbl, b1, b2, hBy⟩ := h0.2.2.2.2.1
  have hi1 : vp_in (nI i + 1) Ln := la_in hL hi (j := 1) (by omega)
  have hke : ∀ {v}, sp_KM u v → k v := fun q => hk _ (sp_Inv_q h0 sp_KC_refl hc q)
  unfold wp_case_1 wp_L_load
  refine ⟨hi1, ?_⟩
  generalize xs (Int32.toNatClampNeg (nI i + 1)) = a
  unfold wp_X10_load wp_X10_load_12
  rw [b1, at_0_7, at_0_0, at_0_3, at_23_0, at_2_4]
  rcases ix2 a (n := bl + 1) (by omega) with hb | ⟨N, hN, rfl⟩
  · have hno : ¬ ((0 : Int32) ≤ a ∧ a ≤ nI bl) := by
      rw [Int32.le_iff_toInt_le, Int32.le_iff_toInt_le, nI_toInt (by omega), show (0 : Int32).toInt = 0 from rfl]
      rw [Int32.lt_iff_toInt_lt, Int32.le_iff_toInt_le, nI_toInt (by omega), show (0 : Int32).toInt = 0 from rfl] at hb
      omega
    have M : wp_X11_load ms_E0 u 233 a (fun r285 u285 => en_i k 1 r285 u285) := by
      unfold wp_X11_load
      rw [q_X11_in, h1_b (by omega), b2, if_neg hno]
      refine ⟨fun _ => ?_, fun z => absurd rfl z⟩
      unfold wp_X11_load_23
      exact fails_no (by rw [I_sI, if_pos ⟨rfl, rfl⟩]) (by decide) (by decide) ⟨fun z => absurd z (by decide), fun _ => en_no (by rw [I_sI, if_pos ⟨rfl, rfl⟩]) (by decide) (hke KM_00)⟩
    refine ⟨fun _ => ⟨rfl, hi1, M⟩, fun h1 => ⟨fun h2 => absurd ⟨?_, h2⟩ hno, fun _ => ⟨rfl, hi1, M⟩⟩⟩
    rw [Int32.le_iff_toInt_le, show (0 : Int32).toInt = 0 from rfl]
    rw [Int32.lt_iff_toInt_lt, show (0 : Int32).toInt = 0 from rfl] at h1
    omega
  · have hN : N ≤ bl := by omega
    generalize hBd : (fun k => (ms_I u 234 k).toNatClampNeg) = B
    have hBk : ∀ k, k < N → ms_I u 234 k = nI (B k) ∧ B k < 256 ∧ ms_I u 1 k = sb (B k) := by
      intro k hk
      obtain ⟨c, hc, e1, e2⟩ := hBy k (by omega)
      have : B k = c := by rw [← hBd]; show (ms_I u 234 k).toNatClampNeg = c; rw [e1, nI_clamp (by omega)]
      rw [this]
      exact ⟨e1, hc, e2⟩
    refine ⟨fun z => absurd z (nI_pos (by omega)), fun _ => ⟨fun _ => ?_, fun z => absurd (nI_le hN (by omega)) z⟩⟩
    refine c_read (B := B) ⟨by omega, fun k hk => by rw [I_sI, if_neg (by omega)]; exact ⟨(hBk k hk).2.2, (hBk k hk).2.1⟩⟩ ?_
    cases hA : pz_all B N with
    | inl e =>
      intro u1 hF1 h231
      refine ⟨fun z => absurd z er_0, fun _ => ⟨in529, hi1, ?_⟩⟩
      rw [h231]
      generalize hw : ms_sJ (ms_sI u1 0 2 (nI e.2)) 529 (Int32.toNatClampNeg 0) (Int32.toInt64 (er e.1)) = w
      have F : ∀ a b, ¬ (a = 0 ∧ (b = 1 ∨ b = 2)) → ¬ (23 ≤ a ∧ a ≤ 48) → ms_I w a b = ms_I u a b := fun a b z1 z2 => by
        rw [← hw]
        show ms_I (ms_sI u1 0 2 (nI e.2)) a b = _
        rw [I_sI, if_neg (by omega), hF1.1 a b z2, I_sI, if_neg (by omega)]
      have w1 : ms_I w 0 1 = nI 0 := by
        rw [← hw]
        show ms_I (ms_sI u1 0 2 (nI e.2)) 0 1 = _
        rw [I_sI, if_neg (by omega), hF1.1 0 1 (by omega), I_sI, if_pos ⟨rfl, rfl⟩]; rfl
      have w2 : ms_I w 0 2 = nI e.2 := by
        rw [← hw]
        show ms_I (ms_sI u1 0 2 (nI e.2)) 0 2 = _
        rw [I_sI, if_pos ⟨rfl, rfl⟩]
      have wJ : ms_J w 529 0 = Int32.toInt64 (er e.1) := by
        rw [← hw, show Int32.toNatClampNeg 0 = 0 from rfl, J_sJ, if_pos ⟨rfl, rfl⟩]
      refine m_load hN hbl (by rw [F _ _ (by omega) (by omega)]; exact b2) (fun k hk => by rw [F _ _ (by omega) (by omega)]; exact ⟨(hBk k hk).1, (hBk k hk).2.1⟩) ?_
      rw [hA]
      intro u2 hF2 h5 h6
      unfold wp_X11_load_157
      rw [h6]
      have g5 : ms_I (ms_sI u2 233 7 (nI e.2)) 233 5 = er e.1 := by rw [I_sI, if_neg (by omega)]; exact h5
      refine g_no (by rw [g5]; exact er_0) ⟨fun _ => ?_, fun z => absurd rfl z⟩
      rw [g5]
      have G : ∀ a b, a ≠ 236 → ¬ (a = 233 ∧ (b = 0 ∨ b = 2 ∨ b = 3 ∨ b = 4 ∨ b = 5 ∨ b = 6 ∨ b = 7 ∨ b = 12 ∨ b = 13 ∨ b = 14)) → ¬ (a = 0 ∧ (b = 1 ∨ b = 2)) → ¬ (23 ≤ a ∧ a ≤ 48) → ms_I (ms_sI u2 233 7 (nI e.2)) a b = ms_I u a b := fun a b z1 z2 z3 z4 => by
        rw [I_sI, if_neg (by omega), hF2.1 a b z1 (by omega)]; exact F a b z3 z4
      refine en_ok (by rw [I_sI, if_neg (by omega)]; exact hF2.2.2.1) (by rw [J_sI, hF2.2.1]; exact wJ) (hk _ (sp_Inv_ld (D := D) (l := l) (n := n) (q := q) (P := P) (Q := Q) hV (sp_M_eq (fun b => G _ b (by omega) (by omega) (by omega) (by omega)) hM) (sp_R_eq (fun i b hi => G _ b (by omega) (by omega) (by omega) (by omega)) hR) (PC_eq hPC (fun a b z => G a b (by omega) (by omega) (by omega) (by omega))) (PM_eq hn hPM (fun a b z => G a b (by omega) (by omega) (by omega) (by omega))) hPV ?_ ?_ ?_ (sp_Ca_eq hc (fun a b z => G a b ?_ ?_ ?_ ?_))))
      · rw [I_sI, if_neg (by omega), hF2.1 0 1 (by omega) (by omega)]; exact w1
      · rw [I_sI, if_neg (by omega)]; exact hF2.2.2.2
      · rw [I_sI, if_neg (by omega), hF2.1 0 2 (by omega) (by omega), w2, I_sI, if_pos ⟨rfl, rfl⟩]
      · unfold sp_Kc at z; omega
      · unfold sp_Kc at z; omega
      · unfold sp_Kc at z; omega
      · unfold sp_Kc at z; omega
    | inr y =>
      obtain ⟨yq, D', l'⟩ := y
      intro u1 hF1 h231 hpw hT1
      have hpw : pw D' l' := hpw
      have hT1 : sp_R (sp_T u1 24) D' l' := hT1
      have hV' := pw_V hpw
      refine ⟨fun _ => ?_, fun z => absurd rfl z⟩
      rw [h231]
      have F1 : ∀ a b, ¬ (a = 0 ∧ (b = 1 ∨ b = 2)) → ¬ (23 ≤ a ∧ a ≤ 48) → ms_I (ms_sI u1 0 2 (-1)) a b = ms_I u a b := fun a b z1 z2 => by
        rw [I_sI, if_neg (by omega), hF1.1 a b z2, I_sI, if_neg (by omega)]
      refine c_beginChange (q := q) hV (sp_R_eq (fun i b hi => F1 _ b (by omega) (by omega)) hR) (PC_eq hPC (fun a b z => F1 a b (by omega) (by omega))) (fun u3 q' hF3 hPC3 => ?_)
      refine c_copyFrom tn_2 tn_24 (by omega) (fun u4 hF4 hJ4 hcp => ?_)
      have hT3 : sp_R (sp_T u3 24) D' l' := sp_R_eq (fun i b hi => by show ms_I u3 (24 + i) b = ms_I u1 (24 + i) b; rw [hF3.1 _ b (by omega) (by omega), I_sI, if_neg (by omega)]) hT1
      have hT4 : sp_R (sp_T u4 2) D' l' := sp_R_cp hV' hT3 hcp
      have e8 : ms_I u4 8 0 = nI (D' 2) := hT4.1.2.2.2.2.1
      rw [e8]
      refine ⟨in529, hi1, ?_⟩
      generalize hw : ms_sJ u4 529 (Int32.toNatClampNeg 0) (Int32.toInt64 (nI (D' 2))) = w
      have W : ∀ a b, ms_I w a b = ms_I u4 a b := fun a b => by rw [← hw]; rfl
      have wJ : ms_J w 529 0 = Int32.toInt64 (nI (D' 2)) := by
        rw [← hw, show Int32.toNatClampNeg 0 = 0 from rfl, J_sJ, if_pos ⟨rfl, rfl⟩]
      have F4 : ∀ a b, 233 ≤ a → ms_I w a b = ms_I u a b := fun a b z => by
        rw [W, hF4 a b (by omega), hF3.1 a b (by omega) (by omega)]; exact F1 a b (by omega) (by omega)
      refine m_load hN hbl (by rw [F4 _ _ (by omega)]; exact b2) (fun k hk => by rw [F4 _ _ (by omega)]; exact ⟨(hBk k hk).1, (hBk k hk).2.1⟩) ?_
      rw [hA]
      intro u5 hF5 h5 h6 hM5
      have hM5 : sp_M u5 236 D' := hM5
      unfold wp_X11_load_157
      rw [h6, at_233_9, at_233_8, show Int32.toNatClampNeg 2 = 2 from rfl]
      have K6 : ∀ a b, ¬ (a = 233 ∧ b = 7) → ms_I (ms_sI u5 233 7 (-1)) a b = ms_I u5 a b := fun a b z => by rw [I_sI, if_neg z]
      refine g_yes (by rw [K6 _ _ (by omega)]; exact h5) ⟨fun z => absurd z (by decide), fun _ => ?_⟩
      refine m_remember (D := D) (n := n) (P := P) (sp_M_eq (fun b => by rw [K6 _ _ (by omega), hF5.1 _ _ (by omega) (by omega)]; exact F4 235 b (by omega)) hM) hn (PM_eq hn hPM (fun a b z => by rw [K6 _ _ (by omega), hF5.1 _ _ (by omega) (by omega)]; exact F4 a b (by omega))) (fun u7 hF7 hPM7 => ?_)
      refine m_copy n236 n235 (by omega) (fun u8 hF8 hJ8 h8 => ?_)
      have hM8 : sp_M u8 235 D' := fun k hk => by
        rw [h8 k hk, hF7.1 236 k (by omega) (by omega), K6 _ _ (by omega)]
        exact hM5 k hk
      rw [hM8 2 (by omega)]
      refine ⟨vi 2 1613, ?_⟩
      have G : ∀ a b, a ≤ 232 → ms_I u8 a b = ms_I u4 a b := fun a b z => by
        rw [hF8 a b (by omega), hF7.1 a b (by omega) (by omega), K6 _ _ (by omega), hF5.1 a b (by omega) (by omega), W]
      have G2 : ∀ b, b ≠ 11 → b ≠ 7 → ms_I u8 233 b = ms_I u5 233 b := fun b z z2 => by
        rw [hF8 233 b (by omega), hF7.1 233 b (by omega) (by omega), K6 _ _ (by omega)]
      refine en_ok (by rw [G2 0 (by omega) (by omega)]; exact hF5.2.2.1) (by rw [hJ8, hF7.2, J_sI, hF5.2.1]; exact wJ) (hk _ (sp_Inv_ld (D := D') (l := l') hV' hM8 (sp_R_eq (fun i b hi => G _ b (by omega)) hT4) (PC_eq hPC3 (fun a b z => ?_)) (PM_eq (pu_le hn) hPM7 (fun a b z => hF8 a b (by omega))) (pu_V hn hPV hV) ?_ ?_ ?_ (Ca_none ?_ ?_)))
      · rw [G a b (by omega), hF4 a b (by omega)]
      · rw [G 0 1 (by omega), hF4 0 1 (by omega), hF3.1 0 1 (by omega) (by omega), I_sI, if_neg (by omega), hF1.1 0 1 (by omega), I_sI, if_pos ⟨rfl, rfl⟩]; rfl
      · rw [G2 2 (by omega) (by omega)]; exact hF5.2.2.2
      · rw [G 0 2 (by omega), hF4 0 2 (by omega), hF3.1 0 2 (by omega) (by omega), I_sI, if_pos ⟨rfl, rfl⟩, hF8 233 7 (by omega), hF7.1 233 7 (by omega) (by omega), I_sI, if_pos ⟨rfl, rfl⟩]
      · rw [G 0 11 (by omega), hF4 0 11 (by omega)]; exact hF3.2.2.1
      · rw [G 0 12 (by omega), hF4 0 12 (by omega)]; exact hF3.2.2.2
end LO
