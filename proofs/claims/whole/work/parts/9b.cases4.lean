/-! ===== the law's cases 25, 26 ===== -/
section DL
variable {D : Nat → Nat} {l : List ms_Op} {u : ms_St} {s h k0 : Nat} {post : Int32 → ms_St → Prop} {px : String → ms_St → Prop} {a a2 : Int32}
theorem wh_s {S : Nat → Nat} {k m i : Nat} : sq_wh S k (m + 1) i = if (S i).testBit k = true then nI i else sq_wh S k m (i + 1) := rfl
theorem tt_0 : sq_bt (sq_TT D l 0) (D 3 ^ sp_cn 0 (D 2)) = 0 := by
  rw [cn_0, Nat.pow_zero]
  have t0 : ∀ n, sq_tm (sq_en D l 0) (sq_sh (D 3) 0 0) n = 0 := by
    intro n
    induction n with
    | zero => rfl
    | succ n ih => rw [tm_s, if_neg (fun z => z.1 rfl)]; exact ih
  have e : sq_TT D l 0 0 = 0 := by
    unfold sq_TT sq_T
    rw [cn_0]
    exact t0 _
  show (if sq_TT D l 0 0 < 1000000 then sq_TT D l 0 0 else 1000000) = 0
  rw [e]
  rfl
theorem c_division (hV : sp_V D l) (hT : sp_R (sp_T u 2) D l) (hCa : sp_Ca u D l) (hs : s < 2 ^ D 2) (hc : sp_pc 16 s ≤ 8) (hp : ∀ u', sp_KC u u' → sp_Ca u' D l → post (sp_td (sq_bt (sq_TT D l s) (D 3 ^ sp_cn s (D 2)))) u') : wp_X10_division ms_E0 u 0 (nI s) post px := by
  have c2 := hV.1.2.2.1
  have hp2 : 2 ^ D 2 ≤ 2 ^ 16 := Nat.pow_le_pow_right (by decide) c2
  unfold wp_X10_division
  rw [at_0_3, at_0_8, at_0_10]
  refine ckSet_ok hV hT hs hc (c_refreshRoutes hV hT hCa.1 (fun u1 hF hJ hW => c_divide hV (rr_R hF hT) hW (by omega) (st_cn c2 hc) (fun u2 h2 _ _ _ hB => ?_)))
  rw [hB.1]
  exact hp u2 (cq_KC (rr_KC hF) h2) (cq_Ca (rr_Ca hF hW hCa) h2)
theorem cn_pos {n : Nat} (h0 : s ≠ 0) (hs : s < 2 ^ n) : 1 ≤ sp_cn s n := by
  obtain ⟨i, hi⟩ := Nat.exists_testBit_of_ne_zero h0
  have hin : i < n := by
    have h1 := Nat.ge_two_pow_of_testBit hi
    exact (Nat.pow_lt_pow_iff_right (by decide)).mp (Nat.lt_of_le_of_lt h1 hs)
  obtain ⟨k, hk, _⟩ := mb_on n i hin hi
  omega
theorem m_division (hV : sp_V D l) (hM : sp_M u 235 D) (h0 : s ≠ 0) (hs : s < 2 ^ D 2) (hc : sp_pc 16 s ≤ 8) (hp : ∀ u', sp_KM u u' → ms_I u' 233 0 = 0 → post (sp_td (sq_bt (sq_TT D l s) (D 3 ^ sp_cn s (D 2)))) u') : wp_X11_division ms_E0 u 233 (nI s) post := by
  have c2 := hV.1.2.2.1
  have hp2 : 2 ^ D 2 ≤ 2 ^ 16 := Nat.pow_le_pow_right (by decide) c2
  have hM0 : sp_M (ms_sI u 233 0 0) 235 D := M_t hM (by decide)
  unfold wp_X11_division wp_X11_division_19
  refine m_isSet hV hM0 hs hc ⟨fun q => absurd q (by decide), fun _ => fails_ok rfl ⟨fun _ => ⟨fun q => absurd q (nI_ne0 (by omega) (by omega)), fun _ => m_divide (l := l) hV hM0 (by omega) (st_cn c2 hc) (cn_pos h0 hs) (fun u' h1 z1 _ _ h31 _ => ?_)⟩, fun q => absurd rfl q⟩⟩
  have hb := bt_le (T := sq_TT D l s) (D 3 ^ sp_cn s (D 2))
  rw [q_X11_told, h31, td_m (by omega)]
  exact hp u' (sp_KM_tr KM_0 h1) (by rw [z1]; rfl)
theorem m_division_0 (hV : sp_V D l) (hM : sp_M u 235 D) (hp : post 0 (ms_sI u 233 0 0)) : wp_X11_division ms_E0 u 233 (nI 0) post := by
  have hM0 : sp_M (ms_sI u 233 0 0) 235 D := M_t hM (by decide)
  unfold wp_X11_division wp_X11_division_19
  exact m_isSet hV hM0 (Nat.two_pow_pos _) (by rw [pc_0]; omega) ⟨fun q => absurd q (by decide), fun _ => fails_ok rfl ⟨fun _ => ⟨fun _ => hp, fun q => absurd rfl q⟩, fun q => absurd rfl q⟩⟩
theorem m_division_no (hV : sp_V D l) (hM : sp_M u 235 D) (hb : st_no D a) (hp : post 0 (ms_sI (ms_sI u 233 0 0) 233 0 1)) : wp_X11_division ms_E0 u 233 a post := by
  have hM0 : sp_M (ms_sI u 233 0 0) 235 D := M_t hM (by decide)
  unfold wp_X11_division wp_X11_division_19
  exact m_isSet_no hV hM0 hb ⟨fun _ => fails_no rfl (by decide) (by decide) ⟨fun q => absurd q (by decide), fun _ => hp⟩, fun q => absurd rfl q⟩
/-! walkerOf -/
def sq_wo (D : Nat → Nat) (l : List ms_Op) (s k0 : Nat) : Int32 := if sq_bi (sq_TT D l s) (D 3 ^ sp_cn s (D 2)) = 0 then -1 else sq_wh (sq_sh (D 3) (sp_cn s (D 2)) (sq_bi (sq_TT D l s) (D 3 ^ sp_cn s (D 2)) - 1)) k0 (D 3) 0
theorem mb_inj (hk : k0 < sp_cn s (D 2)) : ∀ k, k < sp_cn s (D 2) → k ≠ k0 → sp_mb s (D 2) k ≠ sp_mb s (D 2) k0 := by
  intro k h1 h2 e
  rcases Nat.lt_or_gt_of_ne h2 with q | q
  · have := mb_lt2 (s := s) (D 2) k k0 q hk
    omega
  · have := mb_lt2 (s := s) (D 2) k0 k q h1
    omega
theorem c_walkerOf (hV : sp_V D l) (hT : sp_R (sp_T u 2) D l) (hCa : sp_Ca u D l) (hh : h < D 2) (hs : s < 2 ^ D 2) (hc : sp_pc 16 s ≤ 8) (hb : s.testBit h = true) (hk : k0 < sp_cn s (D 2)) (hmb : sp_mb s (D 2) k0 = h) (hp : ∀ u', sp_KC u u' → sp_Ca u' D l → post (sq_wo D l s k0) u') : wp_X10_walkerOf ms_E0 u 0 (nI s) (nI h) post px := by
  have c2 := hV.1.2.2.1
  have c3 := hV.1.2.2.2.1
  have hp2 : 2 ^ D 2 ≤ 2 ^ 16 := Nat.pow_le_pow_right (by decide) c2
  have hc8 := st_cn c2 hc
  have h8 := pw8 _ hc8
  unfold sq_wo at hp
  unfold wp_X10_walkerOf
  rw [at_0_3, at_0_8, at_0_10]
  refine ckH_ok hT.1.2.2.2.2.1 (by omega) hh (ckSet_ok hV hT hs hc (q_cont (by omega) (by omega) (fun _ => c_refreshRoutes hV hT hCa.1 (fun u1 hF hJ hW => c_divide hV (rr_R hF hT) hW (by omega) hc8 (fun u2 h2 e0 e15 hm hB => ?_))) (fun b => ?_)))
  · have fin := hp u2 (cq_KC (rr_KC hF) h2) (cq_Ca (rr_Ca hF hW hCa) h2)
    have bb := bi_bt (T := sq_TT D l s) (D 3 ^ sp_cn s (D 2))
    by_cases z : sq_bi (sq_TT D l s) (D 3 ^ sp_cn s (D 2)) = 0
    · rw [if_pos z] at fin
      unfold wp_X2_chosenWalker
      rw [hB.1, td_far (bb.1.mp z)]
      exact ⟨fun _ => fin, fun q => absurd rfl q⟩
    · rw [if_neg z] at fin
      refine c_chosen (S := sq_sh (D 3) (sp_cn s (D 2)) (sq_bi (sq_TT D l s) (D 3 ^ sp_cn s (D 2)) - 1)) c3 hc8 hk hmb (fun k h1 h2 => by rw [← hmb]; exact mb_inj hk k h1 h2) (fun k h1 => by have := (mb_p (s := s) (D 2) k h1).1; omega) (fun w hw => ?_) e0 e15 hm (hB.2 z) ?_ fin
      · have := sh_lt (n := D 3) (sp_cn s (D 2)) (sq_bi (sq_TT D l s) (D 3 ^ sp_cn s (D 2)) - 1) w
        omega
      · have hlt : sq_bt (sq_TT D l s) (D 3 ^ sp_cn s (D 2)) < 1000000 := Nat.lt_of_not_le (fun q => z (bb.1.mpr q))
        rw [hB.1, td_near hlt]
        exact NO_ne (by omega)
  · rw [hb] at b
    exact absurd b (by decide)
theorem m_walkerOf (hV : sp_V D l) (hM : sp_M u 235 D) (hh : h < D 2) (hs : s < 2 ^ D 2) (hc : sp_pc 16 s ≤ 8) (hb : s.testBit h = true) (hk : k0 < sp_cn s (D 2)) (hmb : sp_mb s (D 2) k0 = h) (hp : ∀ u', sp_KM u u' → ms_I u' 233 0 = 0 → post (sq_wo D l s k0) u') : wp_X11_walkerOf ms_E0 u 233 (nI s) (nI h) post := by
  have c2 := hV.1.2.2.1
  have c3 := hV.1.2.2.2.1
  have c0 := hV.1.1
  have hp2 : 2 ^ D 2 ≤ 2 ^ 16 := Nat.pow_le_pow_right (by decide) c2
  have hc8 := st_cn c2 hc
  have h8 := pw8 _ hc8
  have hM0 : sp_M (ms_sI u 233 0 0) 235 D := M_t hM (by decide)
  have hmany : D 3 ^ sp_cn s (D 2) ≤ 6561 := Nat.le_trans (Nat.pow_le_pow_left c3 _) (Nat.pow_le_pow_right (n := 3) (by decide) hc8)
  unfold sq_wo at hp
  unfold wp_X11_walkerOf wp_X11_walkerOf_27
  refine noH_ok (D := D) hM0 c2 hh rfl ⟨fun _ => m_isSet hV hM0 hs hc ⟨fun q => absurd q (by decide), fun _ => fails_ok rfl ⟨fun _ => bt_0A (by omega) (by omega) (fun b => ?_) (fun _ => m_divide (l := l) hV hM0 (by omega) hc8 (by omega) (fun u1 h1 z1 hS hH h31 h32 => ?_)), fun q => absurd rfl q⟩⟩, fun q => absurd rfl q⟩
  · rw [hb] at b
    exact absurd b (by decide)
  have bb := bi_bt (T := sq_TT D l s) (D 3 ^ sp_cn s (D 2))
  rw [h32]
  refine pl_le (by omega) (fun b hb2 => ?_) (fun z => ?_)
  · rw [hb2, pl_s]
    rw [hb2, if_neg (by omega), Nat.add_sub_cancel] at hp
    have hn : 1 ≤ D 3 := by
      rcases Nat.eq_zero_or_pos (D 3) with z | z
      · rw [z, Nat.zero_pow (by omega)] at bb; rw [z, Nat.zero_pow (by omega)] at hb2; omega
      · exact z
    have hev : ∀ w S, w < D 3 → S < 2 ^ sp_cn s (D 2) → sq_en D l s w S ≤ 1000000 := by
      intro x S hx hS
      have := se_v (sq_A_ok (s := s) (w := x) hV hx hc8) (show S < 256 by omega)
      show sq_se (sq_A D l s x) S ≤ 1000000
      omega
    refine m_timeOf (e := sq_en D l s) hV hS.1 hn hc8 hev (by omega) hS.2.2.1 hH (fun u2 hF2 h528 => ⟨k0 + 1, ?_⟩)
    have hS2 : mq_S u2 D s := mq_S_k c0 hS (fun a b q => hF2.1 a b (by omega))
    have hK2 : sp_KM u u2 := mq_KM (sp_KM_tr KM_0 h1) ⟨fun a b q1 q2 => hF2.1 a b (by omega), fun a _ => by rw [hF2.2]⟩
    have fin := hp u2 hK2 (by rw [hF2.1 233 0 (by omega), z1]; rfl)
    have t90 : ∀ m w, w + m = D 3 → sq_wh (sq_sh (D 3) (sp_cn s (D 2)) b) k0 m w = sq_wh (sq_sh (D 3) (sp_cn s (D 2)) b) k0 (D 3) 0 → wp_X11_walkerOf_90 ms_E0 233 (nI s) (nI h) post (m + 1) u2 (nI k0) (nI w) := by
      intro m
      induction m with
      | zero =>
        intro w hw e
        unfold wp_X11_walkerOf_90
        rw [at_233_8, show Int32.toNatClampNeg 3 = 3 from rfl, hS2.1 3 (by omega)]
        rw [← e] at fin
        exact ⟨vi 3 1613, fun _ => fin, fun q => absurd (nI_le (by omega) (by omega)) q⟩
      | succ m ih =>
        intro w hw e
        have hl := sh_lt (n := D 3) (sp_cn s (D 2)) b w
        rw [wh_s] at e
        unfold wp_X11_walkerOf_90
        rw [at_233_8, at_233_33, show Int32.toNatClampNeg 3 = 3 from rfl, hS2.1 3 (by omega), nI_clamp (show w < 2 ^ 31 by omega), h528 w (by omega), nI_1 w]
        refine ⟨vi 3 1613, fun q => absurd q (nI_ge (by omega) (by omega)), fun _ => ⟨vp_in_nI (by omega) (by omega), bt_1A (by omega) (by omega) (fun bt => ?_) (fun bt => ?_)⟩⟩
        · rw [if_pos bt] at e
          rw [← e] at fin
          exact fin
        · rw [if_neg (by rw [bt]; decide)] at e
          exact ih (w + 1) (by omega) e
    have t71 : ∀ m k, k + m = k0 → wp_X11_walkerOf_71 ms_E0 233 (nI s) (nI h) post (m + 1) u2 (nI k) := by
      intro m
      induction m with
      | zero =>
        intro k hkm
        have ek : k = k0 := by omega
        subst ek
        unfold wp_X11_walkerOf_71
        rw [at_233_26, nI_clamp (by omega), hS2.2.2.2 k hk, hmb]
        exact ⟨vp_in_nI (by omega) (by omega), fun _ => ⟨D 3 + 1, t90 (D 3) 0 (by omega) rfl⟩, fun q => absurd rfl q⟩
      | succ m ih =>
        intro k hkm
        have hi := mb_inj hk k (by omega) (by omega)
        have hm := (mb_p (s := s) (D 2) k (by omega)).1
        unfold wp_X11_walkerOf_71
        rw [at_233_26, nI_clamp (by omega), hS2.2.2.2 k (by omega), nI_1 k]
        rw [hmb] at hi
        exact ⟨vp_in_nI (by omega) (by omega), pk_eq (sp_mb s (D 2) k) h (fun q => absurd q hi) (fun _ => ih (k + 1) (by omega))⟩
    exact t71 k0 0 (by omega)
  · rw [if_pos z] at hp
    exact hp u1 (sp_KM_tr KM_0 h1) (by rw [z1]; rfl)
theorem m_walkerOf_out (hV : sp_V D l) (hM : sp_M u 235 D) (hh : h < D 2) (hs : s < 2 ^ D 2) (hc : sp_pc 16 s ≤ 8) (hb : s.testBit h = false) (hp : post (-1) (ms_sI u 233 0 0)) : wp_X11_walkerOf ms_E0 u 233 (nI s) (nI h) post := by
  have c2 := hV.1.2.2.1
  have hp2 : 2 ^ D 2 ≤ 2 ^ 16 := Nat.pow_le_pow_right (by decide) c2
  have hM0 : sp_M (ms_sI u 233 0 0) 235 D := M_t hM (by decide)
  unfold wp_X11_walkerOf wp_X11_walkerOf_27
  refine noH_ok (D := D) hM0 c2 hh rfl ⟨fun _ => m_isSet hV hM0 hs hc ⟨fun q => absurd q (by decide), fun _ => fails_ok rfl ⟨fun _ => bt_0A (by omega) (by omega) (fun _ => hp) (fun b => ?_), fun q => absurd rfl q⟩⟩, fun q => absurd rfl q⟩
  rw [hb] at b
  exact absurd b (by decide)
theorem c_walkerOf_out (hV : sp_V D l) (hT : sp_R (sp_T u 2) D l) (hh : h < D 2) (hs : s < 2 ^ D 2) (hc : sp_pc 16 s ≤ 8) (hb : s.testBit h = false) (hp : post (-1) u) : wp_X10_walkerOf ms_E0 u 0 (nI s) (nI h) post px := by
  have c2 := hV.1.2.2.1
  have hp2 : 2 ^ D 2 ≤ 2 ^ 16 := Nat.pow_le_pow_right (by decide) c2
  unfold wp_X10_walkerOf
  refine ckH_ok hT.1.2.2.2.2.1 (by omega) hh (ckSet_ok hV hT hs hc (q_cont (by omega) (by omega) (fun b => ?_) (fun _ => hp)))
  rw [hb] at b
  exact absurd b (by decide)
theorem m_walkerOf_no (hV : sp_V D l) (hM : sp_M u 235 D) (hb : a2 < 0 ∨ nI (D 2) ≤ a2) (hp : post 0 (ms_sI (ms_sI u 233 0 0) 233 0 1)) : wp_X11_walkerOf ms_E0 u 233 a a2 post := by
  unfold wp_X11_walkerOf
  exact noH_no (D := D) (M_t hM (by decide)) hV.1.2.2.1 hb rfl ⟨fun q => absurd q (by decide), fun _ => hp⟩
theorem m_walkerOf_no2 (hV : sp_V D l) (hM : sp_M u 235 D) (hh : h < D 2) (hb : st_no D a) (hp : post 0 (ms_sI (ms_sI u 233 0 0) 233 0 2)) : wp_X11_walkerOf ms_E0 u 233 a (nI h) post := by
  have hM0 : sp_M (ms_sI u 233 0 0) 235 D := M_t hM (by decide)
  unfold wp_X11_walkerOf wp_X11_walkerOf_27
  exact noH_ok (D := D) hM0 hV.1.2.2.1 hh rfl ⟨fun _ => m_isSet_no hV hM0 hb ⟨fun _ => fails_no rfl (by decide) (by decide) ⟨fun q => absurd q (by decide), fun _ => hp⟩, fun q => absurd rfl q⟩, fun q => absurd rfl q⟩
end DL
section DN
variable {Ln i : Nat} {xs : Nat → Int32} {k : ms_St → Prop} {u : ms_St}
theorem p_case_25 (h : sp_Inv u) (hL : Ln ≤ 3072) (hi : i + 6 ≤ Ln) (hk : ∀ u', sp_Inv u' → k u') : wp_case_25 ms_E0 Ln xs 0 233 529 (nI i) k u := by
  obtain ⟨D, l, h0, hc⟩ := h
  have hV := h0.1
  have hM := h0.2.1
  have hR := h0.2.2.1
  have b2 := hV.1.2.2.1
  have hi1 : vp_in (nI i + 1) Ln := la_in hL hi (j := 1) (by omega)
  have hke : ∀ {v}, sp_KM u v → k v := fun q => hk _ (sp_Inv_q h0 sp_KC_refl hc q)
  unfold wp_case_25 wp_L_division
  refine ⟨hi1, ?_⟩
  generalize xs (Int32.toNatClampNeg (nI i + 1)) = a
  rcases st_or D b2 a with hb | ⟨s, hs, rfl, h8⟩
  · unfold wp_X10_division
    exact ckSet_no hV hR hb ⟨rfl, hi1, m_division_no hV hM hb (en_no rfl (by decide) (hke KM_00))⟩
  · by_cases z : s = 0
    · subst z
      refine c_division hV hR hc hs h8 (fun u1 h1 hc1 => ⟨in529, hi1, m_division_0 hV (KC_M h1 hM) (en_ok rfl ?_ (hk _ (sp_Inv_q h0 (sp_KC_sJ h1) hc1 KM_0)))⟩)
      rw [tt_0]
      rfl
    · refine c_division hV hR hc hs h8 (fun u1 h1 hc1 => ⟨in529, hi1, m_division hV (KC_M h1 hM) z hs h8 (fun u2 h2 z => en_ok z ?_ (hk _ (sp_Inv_q h0 (sp_KC_sJ h1) hc1 h2)))⟩)
      rw [h2.2 0]; rfl
theorem p_case_26 (h : sp_Inv u) (hL : Ln ≤ 3072) (hi : i + 6 ≤ Ln) (hk : ∀ u', sp_Inv u' → k u') : wp_case_26 ms_E0 Ln xs 0 233 529 (nI i) k u := by
  obtain ⟨D, l, h0, hc⟩ := h
  have hV := h0.1
  have hM := h0.2.1
  have hR := h0.2.2.1
  have b2 := hV.1.2.2.1
  have hi1 : vp_in (nI i + 1) Ln := la_in hL hi (j := 1) (by omega)
  have hi2 : vp_in (nI i + 2) Ln := la_in hL hi (j := 2) (by omega)
  have hke : ∀ {v}, sp_KM u v → k v := fun q => hk _ (sp_Inv_q h0 sp_KC_refl hc q)
  have hkq : ∀ {x : Int64} {v}, sp_KM (ms_sJ u 529 0 x) v → k v := fun q => hk _ (sp_Inv_q h0 (sp_KC_sJ sp_KC_refl) hc q)
  unfold wp_case_26 wp_L_walkerOf
  refine ⟨hi1, hi2, ?_⟩
  generalize xs (Int32.toNatClampNeg (nI i + 1)) = a
  generalize xs (Int32.toNatClampNeg (nI i + 2)) = b
  rcases ix2 b (n := D 2) (by omega) with hb | ⟨h, hh, rfl⟩
  · unfold wp_X10_walkerOf
    exact ckH_no hR.1.2.2.2.2.1 (by omega) hb (Or.inl ⟨rfl, hi1, hi2, m_walkerOf_no hV hM hb (en_no rfl (by decide) (hke KM_00))⟩)
  · rcases st_or D b2 a with hb | ⟨s, hs, rfl, h8⟩
    · unfold wp_X10_walkerOf
      exact ckH_ok hR.1.2.2.2.2.1 (by omega) hh (ckSet_no hV hR hb (Or.inr ⟨rfl, hi1, hi2, m_walkerOf_no2 hV hM hh hb (en_no rfl (by decide) (hke KM_00))⟩))
    · by_cases hbit : s.testBit h = true
      · obtain ⟨k0, hk0, hmb⟩ := mb_on (D 2) h hh hbit
        refine c_walkerOf hV hR hc hh hs h8 hbit hk0 hmb (fun u1 h1 hc1 => ⟨in529, hi1, hi2, m_walkerOf hV (KC_M h1 hM) hh hs h8 hbit hk0 hmb (fun u2 h2 z => en_ok z ?_ (hk _ (sp_Inv_q h0 (sp_KC_sJ h1) hc1 h2)))⟩)
        rw [h2.2 0]; rfl
      · have hbf : s.testBit h = false := by simpa using hbit
        exact c_walkerOf_out hV hR hh hs h8 hbf ⟨in529, hi1, hi2, m_walkerOf_out hV hM hh hs h8 hbf (en_ok rfl rfl (hkq KM_0))⟩
end DN
