/-! ===== sets; the law's cases 23, 24 ===== -/
theorem all_nI (a : Int32) : ∃ m, m < 2 ^ 32 ∧ a = nI m := ⟨a.toBitVec.toNat, a.toBitVec.isLt, Int32.toBitVec_inj.1 (by show a.toBitVec = BitVec.ofNat 32 a.toBitVec.toNat; simp)⟩
theorem nI_z {m : Nat} (h : m < 2 ^ 32) (e : nI m = 0) : m = 0 := by
  have : (nI m).toBitVec.toNat = (0 : Int32).toBitVec.toNat := by rw [e]
  have e2 : (nI m).toBitVec.toNat = m % 2 ^ 32 := BitVec.toNat_ofNat m 32
  rw [e2, show (0 : Int32).toBitVec.toNat = 0 from rfl, Nat.mod_eq_of_lt h] at this
  exact this
theorem us_c : ∀ c, c < 17 → (((nI c).toUInt32 &&& Int32.toUInt32 31).toBitVec % 32).toNat = c := by decide +kernel
/-- no such set -/
def st_no (D : Nat → Nat) (a : Int32) : Prop := (a < 0 ∨ nI (2 ^ D 2) ≤ a) ∨ ∃ s, s < 2 ^ D 2 ∧ a = nI s ∧ 8 < sp_pc 16 s
theorem st_or (D : Nat → Nat) (h : D 2 ≤ 16) (a : Int32) : st_no D a ∨ ∃ s, s < 2 ^ D 2 ∧ a = nI s ∧ sp_pc 16 s ≤ 8 := by
  have hp : 2 ^ D 2 ≤ 2 ^ 16 := Nat.pow_le_pow_right (by decide) h
  rcases ix2 a (n := 2 ^ D 2) (by omega) with q | ⟨s, hs, e⟩
  · exact Or.inl (Or.inl q)
  · by_cases c : sp_pc 16 s ≤ 8
    · exact Or.inr ⟨s, hs, e, c⟩
    · exact Or.inl (Or.inr ⟨s, hs, e, by omega⟩)
theorem st_cn {D : Nat → Nat} {s : Nat} (h : D 2 ≤ 16) (hc : sp_pc 16 s ≤ 8) : sp_cn s (D 2) ≤ 8 := by
  have h1 := cn_mono (s := s) (D 2) 16 h
  rw [cn_pc (s := s) 16 s] at h1
  omega
theorem cq_KC {v u0 u : ms_St} (h : sp_KC v u0) (hF : cq_F u0 u) : sp_KC v u := fun a b q => (hF.1 a b (by unfold sp_Kp at q; omega)).trans (h a b q)
theorem cq_Ca {u0 u : ms_St} {D : Nat → Nat} {l : List ms_Op} (h : sp_Ca u0 D l) (hF : cq_F u0 u) : sp_Ca u D l := sp_Ca_eq h (fun a b q => hF.1 a b (by unfold sp_Kc at q; omega))
theorem mq_KM {v u0 u : ms_St} (h : sp_KM v u0) (hF : mq_F u0 u) : sp_KM v u := by
  refine sp_KM_tr h ⟨fun a b q => hF.1 a b ?_ ?_, fun b => by rw [hF.2 529 (by decide)]⟩
  · unfold sp_Kp sp_Kc at q
    omega
  · unfold sp_Kp sp_Kc at q
    omega
theorem mt_mq {u0 u : ms_St} (h : mt_F u0 u) : mq_F u0 u := ⟨fun a b q1 q2 => h.1 a b (by omega), h.2⟩
theorem mr_mq {u0 u : ms_St} (h : mr_F u0 u) : mq_F u0 u := ⟨fun a b q1 q2 => h.1 a b (by omega) (by omega), h.2⟩
theorem mq_tr {u v w : ms_St} (h : mq_F u v) (h2 : mq_F v w) : mq_F u w := ⟨fun a b q1 q2 => (h2.1 a b q1 q2).trans (h.1 a b q1 q2), fun a q => (h2.2 a q).trans (h.2 a q)⟩
section SR
variable {D : Nat → Nat} {l : List ms_Op} {u : ms_St} {s w g k : Nat} {post : Int32 → ms_St → Prop} {px : String → ms_St → Prop} {pv : ms_St → Prop} {a a2 a3 : Int32} {A : ms_Q}
theorem ckSet_ok (hV : sp_V D l) (hT : sp_R (sp_T u 2) D l) (hs : s < 2 ^ D 2) (hc : sp_pc 16 s ≤ 8) (hp : pv u) : wp_X10_checkSet ms_E0 u 0 (nI s) pv px := by
  have c2 := hV.1.2.2.1
  have hp2 : 2 ^ D 2 ≤ 2 ^ 16 := Nat.pow_le_pow_right (by decide) c2
  have e8 : ms_I u 8 0 = nI (D 2) := hT.1.2.2.2.2.1
  unfold wp_X10_checkSet
  rw [at_0_3, at_2_4, e8, pk_ushrN (by omega) _ (D 2) (us_c _ (by omega)), Nat.div_eq_of_lt hs]
  exact ⟨fun _ => J_bitCount (by omega) ⟨fun _ => hp, fun q => absurd (nI_le (b := 8) hc (by decide)) q⟩, fun q => absurd rfl q⟩
theorem ckSet_no (hV : sp_V D l) (hT : sp_R (sp_T u 2) D l) (hb : st_no D a) (hp : px "java/lang/IllegalArgumentException" u) : wp_X10_checkSet ms_E0 u 0 a pv px := by
  have c2 := hV.1.2.2.1
  have hp2 : 2 ^ D 2 ≤ 2 ^ 16 := Nat.pow_le_pow_right (by decide) c2
  have e8 : ms_I u 8 0 = nI (D 2) := hT.1.2.2.2.2.1
  unfold wp_X10_checkSet wp_X10_checkSet_24
  rw [at_0_3, at_2_4, e8]
  rcases hb with hb | ⟨s, hs, rfl, h8⟩
  · obtain ⟨m, hm, rfl⟩ := all_nI a
    have hge : 2 ^ D 2 ≤ m := by
      by_cases q : m < 2 ^ 31
      · rcases hb with h | h
        · exact absurd h (nI_pos q)
        · exact (nI_leI (by omega) q).mp h
      · omega
    rw [pk_ushrN hm _ (D 2) (us_c _ (by omega))]
    refine ⟨fun q => ?_, fun _ => hp⟩
    have hd := Nat.div_le_self m (2 ^ D 2)
    have z := nI_z (show m / 2 ^ D 2 < 2 ^ 32 by omega) q
    have hd2 := Nat.div_pos hge (Nat.two_pow_pos (D 2))
    omega
  · rw [pk_ushrN (by omega) _ (D 2) (us_c _ (by omega)), Nat.div_eq_of_lt hs]
    have := pc_le 16 s
    exact ⟨fun _ => J_bitCount (by omega) ⟨fun q => absurd q (nI_ge (a := 8) h8 (by omega)), fun _ => hp⟩, fun q => absurd rfl q⟩
theorem m_isSet (hV : sp_V D l) (hM : sp_M u 235 D) (hs : s < 2 ^ D 2) (hc : sp_pc 16 s ≤ 8) (hp : post 1 u) : wp_X11_isSet ms_E0 u 233 (nI s) post := by
  have c2 := hV.1.2.2.1
  have hp2 : 2 ^ D 2 ≤ 2 ^ 16 := Nat.pow_le_pow_right (by decide) c2
  unfold wp_X11_isSet wp_X11_isSet_30
  rw [at_233_8, show Int32.toNatClampNeg 2 = 2 from rfl, hM 2 (by omega), bt_1 (by omega)]
  have := pc_le 16 s
  exact ⟨fun q => absurd q (nI_pos (by omega)), fun _ => ⟨vi 2 1613, fun q => absurd q (nI_ge hs (by omega)), fun _ => m_size (by omega) ⟨fun q => absurd q (nI_nlt (a := 8) hc (by decide)), fun _ => ⟨Or.inr rfl, hp⟩⟩⟩⟩
theorem m_isSet_no (hV : sp_V D l) (hM : sp_M u 235 D) (hb : st_no D a) (hp : post 0 u) : wp_X11_isSet ms_E0 u 233 a post := by
  have c2 := hV.1.2.2.1
  have hp2 : 2 ^ D 2 ≤ 2 ^ 16 := Nat.pow_le_pow_right (by decide) c2
  unfold wp_X11_isSet wp_X11_isSet_29 wp_X11_isSet_30
  rw [at_233_8, show Int32.toNatClampNeg 2 = 2 from rfl, hM 2 (by omega), bt_1 (by omega)]
  rcases hb with hb | ⟨s, hs, rfl, h8⟩
  · refine ⟨fun _ => ⟨Or.inl rfl, hp⟩, fun q => ⟨vi 2 1613, fun _ => ⟨Or.inl rfl, hp⟩, fun q2 => ?_⟩⟩
    rcases hb with h | h
    · exact absurd h q
    · exact absurd h q2
  · have := pc_le 16 s
    exact ⟨fun _ => ⟨Or.inl rfl, hp⟩, fun _ => ⟨vi 2 1613, fun _ => ⟨Or.inl rfl, hp⟩, fun _ => m_size (by omega) ⟨fun _ => ⟨Or.inl rfl, hp⟩, fun q => absurd (nI_lt (a := 8) h8 (by omega)) q⟩⟩⟩
/-! soonest -/
theorem c_soonest (hV : sp_V D l) (hT : sp_R (sp_T u 2) D l) (hCa : sp_Ca u D l) (hw : w < D 3) (hs : s < 2 ^ D 2) (hc : sp_pc 16 s ≤ 8) (hp : ∀ u', sp_KC u u' → sp_Ca u' D l → post (sp_td (sq_se (sq_A D l s w) (2 ^ sp_cn s (D 2) - 1))) u') : wp_X10_soonest ms_E0 u 0 (nI w) (nI s) post px := by
  have c2 := hV.1.2.2.1
  have c3 := hV.1.2.2.2.1
  have hp2 : 2 ^ D 2 ≤ 2 ^ 16 := Nat.pow_le_pow_right (by decide) c2
  unfold wp_X10_soonest
  rw [at_0_3, at_0_8, at_0_10]
  exact ckW_ok hT.1.2.2.2.2.2 (by omega) hw (ckSet_ok hV hT hs hc (c_refreshRoutes hV hT hCa.1 (fun u1 hF hJ hW => c_soonestEnd hV (rr_R hF hT) hW (by omega) (st_cn c2 hc) hw (fun u2 h2 _ _ => hp u2 (cq_KC (rr_KC hF) h2) (cq_Ca (rr_Ca hF hW hCa) h2)))))
theorem fw_z {u' : ms_St} (hF : fw_F u u') (h : ms_I u 233 0 = 0) : ms_I u' 233 0 = 0 := by rw [hF.1 233 0 (by omega)]; exact h
/-- the reference, up to the table -/
theorem m_table (hV : sp_V D l) (hM : sp_M u 235 D) (hw : w < D 3) (hs : s < 2 ^ D 2) (hc : sp_pc 16 s ≤ 8) (hp : ∀ u', sp_KM u u' → ms_I u' 233 0 = ms_I u 233 0 → mq_S u' D s → me_T u' (sq_A D l s w) (2 ^ sp_cn s (D 2)) 0 → pv u') : wp_X11_findWays ms_E0 u 233 (fun u37 => wp_X11_lays ms_E0 u37 233 (nI s) (fun u42 => wp_X11_findSoonest ms_E0 u42 233 (nI w) pv)) := by
  have c2 := hV.1.2.2.1
  have hp2 : 2 ^ D 2 ≤ 2 ^ 16 := Nat.pow_le_pow_right (by decide) c2
  refine m_findWays hV hM (fun u1 h1 => m_lays hV (fw_M h1.1 hM) h1.2 (by omega) (st_cn c2 hc) (fun u2 h2 hS2 => m_findSoonest hV hw (st_cn c2 hc) hS2 (fun u3 h3 hT3 => hp u3 (mq_KM (mq_KM (fw_KM sp_KM_refl h1.1) h2) (mt_mq h3)) ?_ (mq_S_t hV.1.1 hS2 h3) hT3)))
  rw [h3.1 233 0 (by omega), h2.1 233 0 (by omega) (by omega), h1.1.1 233 0 (by omega)]
theorem m_soonest (hV : sp_V D l) (hM : sp_M u 235 D) (hw : w < D 3) (hs : s < 2 ^ D 2) (hc : sp_pc 16 s ≤ 8) (hp : ∀ u', sp_KM u u' → ms_I u' 233 0 = 0 → post (sp_td (sq_se (sq_A D l s w) (2 ^ sp_cn s (D 2) - 1))) u') : wp_X11_soonest ms_E0 u 233 (nI w) (nI s) post := by
  have c2 := hV.1.2.2.1
  have c3 := hV.1.2.2.2.1
  have hc8 := st_cn c2 hc
  have h8 := pw8 _ hc8
  have p := Nat.two_pow_pos (sp_cn s (D 2))
  have hM0 : sp_M (ms_sI u 233 0 0) 235 D := M_t hM (by decide)
  have hA := sq_A_ok (s := s) (w := w) hV hw hc8
  unfold wp_X11_soonest wp_X11_soonest_27
  refine noW_ok (D := D) hM0 (by omega) hw rfl ⟨fun _ => m_isSet hV hM0 hs hc ⟨fun q => absurd q (by decide), fun _ => fails_ok rfl ⟨fun _ => m_table hV hM0 hw hs hc (fun u1 h1 z1 hS hT => ?_), fun q => absurd rfl q⟩⟩, fun q => absurd rfl q⟩
  rw [hS.2.2.1, bt_1 (by omega), show nI (2 ^ sp_cn s (D 2)) - 1 = nI (2 ^ sp_cn s (D 2) - 1) from pk_sub (b := 1) p]
  refine m_soonestOf hV hw hc8 hS (by omega) hT ?_
  have sv := se_v hA (show 2 ^ sp_cn s (D 2) - 1 < 256 by omega)
  rw [q_X11_told, td_m (by omega)]
  exact hp u1 (sp_KM_tr KM_0 h1) (by rw [z1]; rfl)
theorem m_soonest_no (hV : sp_V D l) (hM : sp_M u 235 D) (hb : a < 0 ∨ nI (D 3) ≤ a) (hp : post 0 (ms_sI (ms_sI u 233 0 0) 233 0 1)) : wp_X11_soonest ms_E0 u 233 a a2 post := by
  have c3 := hV.1.2.2.2.1
  unfold wp_X11_soonest
  exact noW_no (D := D) (M_t hM (by decide)) (by omega) hb rfl ⟨fun q => absurd q (by decide), fun _ => hp⟩
theorem m_soonest_no2 (hV : sp_V D l) (hM : sp_M u 235 D) (hw : w < D 3) (hb : st_no D a) (hp : post 0 (ms_sI (ms_sI u 233 0 0) 233 0 2)) : wp_X11_soonest ms_E0 u 233 (nI w) a post := by
  have c3 := hV.1.2.2.2.1
  have hM0 : sp_M (ms_sI u 233 0 0) 235 D := M_t hM (by decide)
  unfold wp_X11_soonest wp_X11_soonest_27
  exact noW_ok (D := D) hM0 (by omega) hw rfl ⟨fun _ => m_isSet_no hV hM0 hb ⟨fun _ => fails_no rfl (by decide) (by decide) ⟨fun q => absurd q (by decide), fun _ => hp⟩, fun q => absurd rfl q⟩, fun q => absurd rfl q⟩
/-! the order -/
theorem mn_ge {f : Nat → Nat} {b : Nat} (hb : b ≤ 1000000) : ∀ j, (∀ i, i < j → s.testBit i = true → b ≤ f i) → b ≤ sq_mn f s j
  | 0, _ => hb
  | j + 1, h => by
    have ih := mn_ge hb j (fun i hi => h i (by omega))
    rw [mn_s]
    by_cases q : s.testBit j = true
    · rw [if_pos q]
      have := h j (by omega) q
      omega
    · rw [if_neg q]; exact ih
theorem e_ge (hA : q_ok A) : ∀ n s k, s < n → s < 256 → k < qM A → s.testBit k = true → qB A ≤ sq_e A s k
  | 0, s, _, h, _, _, _ => by omega
  | n + 1, s, k, h, hs, hk, hb => by
    have hM := hA.1
    have hB := hA.2.1
    obtain ⟨_, b2, b3⟩ := bx s hs k (by omega) hb
    rw [sq_e_eq hM hs (by omega) hb]
    split
    · exact gn_ge (by omega)
    · refine mn_ge (by omega) _ (fun i hi hbi => ?_)
      have := e_ge hA n (s - 2 ^ k) i (by omega) (by omega) hi hbi
      have ev := e_v hA (show s - 2 ^ k < 256 by omega) hi hbi
      exact Nat.le_trans this (gn_ge (by omega))
theorem se_ge (hA : q_ok A) (hs : s < 256) : qB A ≤ sq_se A s := by
  have hB := hA.2.1
  unfold sq_se
  split
  · exact Nat.le_refl _
  · exact mn_ge (by omega) _ (fun i hi hbi => e_ge hA (s + 1) s i (by omega) hs hi hbi)
theorem g_lt (hA : q_ok A) (hg2 : g < 1000000) : ∀ n r last t, r < 2 ^ qM A → sp_cn r (qM A) = n → (n ≠ 0 → ∃ j, j < qM A ∧ sq_P A g r last t j) → ∀ d, d < n → sq_g A g n r last t d < qM A := by
  have hM := hA.1
  have h8 := pw8 _ hM
  intro n
  induction n with
  | zero => intro r last t _ _ _ d hd; omega
  | succ n ih =>
    intro r last t hr hcn hex d hd
    obtain ⟨k, hk, hP, hmin⟩ := P_first (hex (by omega))
    obtain ⟨b1, b2, b3⟩ := bx r (by omega) k (by omega) hP.1
    have ef : sq_f A g r last t (qM A) 0 = k := f_eq hP (qM A) 0 (by omega) (by omega) (fun j _ hj => hmin j hj)
    have cn1 := cn_bit _ (show qM A < 9 by omega) r hr k hk hP.1
    rw [g_s, ef]
    cases d with
    | zero => rw [if_pos rfl]; exact hk
    | succ d =>
      rw [if_neg (by omega), Nat.add_sub_cancel]
      refine ih (r - 2 ^ k) (k + 1) _ (by omega) (by omega) (fun hn => (LL hA hg2 (by omega) (fun z => ?_)).mp hP.2) d (by omega)
      rw [z, cn_0] at cn1
      omega
/-- the class: no order, or none at this place -/
theorem c_order_no (hV : sp_V D l) (hT : sp_R (sp_T u 2) D l) (hCa : sp_Ca u D l) (hw : w < D 3) (hs : s < 2 ^ D 2) (hc : sp_pc 16 s ≤ 8) (h0 : 0 ≤ a3) (hn : 1000000 ≤ sq_se (sq_A D l s w) (2 ^ sp_cn s (D 2) - 1) ∨ nI (sp_cn s (D 2)) ≤ a3) (hp : ∀ u', sp_KC u u' → sp_Ca u' D l → post (-1) u') : wp_X10_soonestOrder ms_E0 u 0 (nI w) (nI s) a3 post px := by
  have c2 := hV.1.2.2.1
  have c3 := hV.1.2.2.2.1
  have hp2 : 2 ^ D 2 ≤ 2 ^ 16 := Nat.pow_le_pow_right (by decide) c2
  unfold wp_X10_soonestOrder wp_X10_soonestOrder_64
  rw [at_0_3, at_0_8, at_0_10]
  refine ckW_ok hT.1.2.2.2.2.2 (by omega) hw (ckSet_ok hV hT hs hc ⟨fun _ => c_refreshRoutes hV hT hCa.1 (fun u1 hF hJ hW => c_soonestEnd hV (rr_R hF hT) hW (by omega) (st_cn c2 hc) hw (fun u2 h2 hA2 hm2 => ?_)), fun q => absurd h0 q⟩)
  have fin := hp u2 (cq_KC (rr_KC hF) h2) (cq_Ca (rr_Ca hF hW hCa) h2)
  refine td_NO (fun _ => fin) (fun q => ⟨fun q2 => ?_, fun _ => fin⟩)
  rcases hn with hn | hn
  · omega
  · have e0 : ms_I u2 60 0 = nI (sp_cn s (D 2)) := hA2.1
    rw [e0] at q2
    exact absurd q2 (Int32.not_lt.mpr hn)
theorem c_order (hV : sp_V D l) (hT : sp_R (sp_T u 2) D l) (hCa : sp_Ca u D l) (hw : w < D 3) (hs : s < 2 ^ D 2) (hc : sp_pc 16 s ≤ 8) (hk : k < sp_cn s (D 2)) (hg : sq_se (sq_A D l s w) (2 ^ sp_cn s (D 2) - 1) = g) (hg2 : g < 1000000) (hp : ∀ u', sp_KC u u' → sp_Ca u' D l → post (nI (sp_mb s (D 2) (sq_g (sq_A D l s w) g (sp_cn s (D 2)) (2 ^ sp_cn s (D 2) - 1) 0 (qB (sq_A D l s w)) k))) u') : wp_X10_soonestOrder ms_E0 u 0 (nI w) (nI s) (nI k) post px := by
  have c2 := hV.1.2.2.1
  have c3 := hV.1.2.2.2.1
  have hp2 : 2 ^ D 2 ≤ 2 ^ 16 := Nat.pow_le_pow_right (by decide) c2
  have hc8 := st_cn c2 hc
  have hA := sq_A_ok (s := s) (w := w) hV hw hc8
  unfold wp_X10_soonestOrder
  rw [at_0_3, at_0_8, at_0_10, at_60_1]
  refine ckW_ok hT.1.2.2.2.2.2 (by omega) hw (ckSet_ok hV hT hs hc ⟨fun _ => c_refreshRoutes hV hT hCa.1 (fun u1 hF hJ hW => c_soonestEnd hV (rr_R hF hT) hW (by omega) hc8 hw (fun u2 h2 hA2 hm2 => ?_)), fun q => absurd (nI_pos' (by omega)) q⟩)
  have e0 : ms_I u2 60 0 = nI (sp_cn s (D 2)) := hA2.1
  rw [hg, e0]
  refine td_NO (fun q => by omega) (fun q => ⟨fun _ => ?_, fun q2 => absurd (nI_lt hk (by omega)) q2⟩)
  rw [td_near hg2]
  refine c_findOrder (mb := sp_mb s (D 2)) hA (show 0 < sp_cn s (D 2) by omega) hg hg2 hA2 hm2 (fun u3 h3 j3 ho => ⟨vp_in_nI (by omega) (by omega), ?_⟩)
  have h4 : cq_F u2 u3 := ⟨fun a b q => h3 a b (by omega) (by omega), j3⟩
  rw [nI_clamp (by omega), ho k hk]
  exact hp u3 (cq_KC (cq_KC (rr_KC hF) h2) h4) (cq_Ca (cq_Ca (rr_Ca hF hW hCa) h2) h4)
theorem m_order_no (hV : sp_V D l) (hM : sp_M u 235 D) (hw : w < D 3) (hs : s < 2 ^ D 2) (hc : sp_pc 16 s ≤ 8) (h0 : 0 ≤ a3) (hn : 1000000 ≤ sq_se (sq_A D l s w) (2 ^ sp_cn s (D 2) - 1) ∨ nI (sp_cn s (D 2)) ≤ a3) (hp : ∀ u', sp_KM u u' → ms_I u' 233 0 = 0 → post (-1) u') : wp_X11_soonestOrder ms_E0 u 233 (nI w) (nI s) a3 post := by
  have c2 := hV.1.2.2.1
  have c3 := hV.1.2.2.2.1
  have hc8 := st_cn c2 hc
  have h8 := pw8 _ hc8
  have p := Nat.two_pow_pos (sp_cn s (D 2))
  have hM0 : sp_M (ms_sI u 233 0 0) 235 D := M_t hM (by decide)
  have hA := sq_A_ok (s := s) (w := w) hV hw hc8
  have sv := se_v hA (show 2 ^ sp_cn s (D 2) - 1 < 256 by omega)
  unfold wp_X11_soonestOrder wp_X11_soonestOrder_31 wp_X11_soonestOrder_84
  refine noW_ok (D := D) hM0 (by omega) hw rfl ⟨fun _ => m_isSet hV hM0 hs hc ⟨fun q => absurd q (by decide), fun _ => ⟨fun _ => fails_ok rfl ⟨fun _ => m_table hV hM0 hw hs hc (fun u1 h1 z1 hS hT => ?_), fun q => absurd rfl q⟩, fun q => absurd h0 q⟩⟩, fun q => absurd rfl q⟩
  rw [hS.2.2.1, bt_1 (by omega), show nI (2 ^ sp_cn s (D 2)) - 1 = nI (2 ^ sp_cn s (D 2) - 1) from pk_sub (b := 1) p]
  refine m_soonestOf hV hw hc8 hS (by omega) hT ?_
  have fin := hp u1 (sp_KM_tr KM_0 h1) (by rw [z1]; rfl)
  rw [hS.2.2.1]
  refine pk_le 1000000 (sq_se (sq_A D l s w) (2 ^ sp_cn s (D 2) - 1)) (fun _ => fin) (fun q => ⟨fun q2 => ?_, fun _ => fin⟩)
  rcases hn with hn | hn
  · omega
  · exact absurd q2 (Int32.not_lt.mpr hn)
theorem m_order (hV : sp_V D l) (hM : sp_M u 235 D) (hw : w < D 3) (hs : s < 2 ^ D 2) (hc : sp_pc 16 s ≤ 8) (hk : k < sp_cn s (D 2)) (hg : sq_se (sq_A D l s w) (2 ^ sp_cn s (D 2) - 1) = g) (hg2 : g < 1000000) (hp : ∀ u', sp_KM u u' → ms_I u' 233 0 = 0 → post (nI (sp_mb s (D 2) (sq_g (sq_A D l s w) g (sp_cn s (D 2)) (2 ^ sp_cn s (D 2) - 1) 0 (qB (sq_A D l s w)) k))) u') : wp_X11_soonestOrder ms_E0 u 233 (nI w) (nI s) (nI k) post := by
  have c2 := hV.1.2.2.1
  have c3 := hV.1.2.2.2.1
  have hc8 := st_cn c2 hc
  have h8 := pw8 _ hc8
  have p := Nat.two_pow_pos (sp_cn s (D 2))
  have hM0 : sp_M (ms_sI u 233 0 0) 235 D := M_t hM (by decide)
  have hA := sq_A_ok (s := s) (w := w) hV hw hc8
  have sv := se_v hA (show 2 ^ sp_cn s (D 2) - 1 < 256 by omega)
  have tb := (hV.2.2.2.1 w hw).2.1
  have gb := se_ge hA (show 2 ^ sp_cn s (D 2) - 1 < 256 by omega)
  rw [hg] at gb
  unfold wp_X11_soonestOrder wp_X11_soonestOrder_31 wp_X11_walker
  refine noW_ok (D := D) hM0 (by omega) hw rfl ⟨fun _ => m_isSet hV hM0 hs hc ⟨fun q => absurd q (by decide), fun _ => ⟨fun _ => fails_ok rfl ⟨fun _ => m_table hV hM0 hw hs hc (fun u1 h1 z1 hS hT => ?_), fun q => absurd rfl q⟩, fun q => absurd (nI_pos' (by omega)) q⟩⟩, fun q => absurd rfl q⟩
  rw [hS.2.2.1, bt_1 (by omega), show nI (2 ^ sp_cn s (D 2)) - 1 = nI (2 ^ sp_cn s (D 2) - 1) from pk_sub (b := 1) p]
  refine m_soonestOf hV hw hc8 hS (by omega) hT ?_
  rw [hS.2.2.1, hg]
  refine pk_le 1000000 g (fun q => by omega) (fun q => ⟨fun _ => ?_, fun q2 => absurd (nI_lt hk (by omega)) q2⟩)
  dsimp only
  have hF : mr_F u1 (ms_sI u1 233 29 0) := ⟨fun a b q1 q2 => by rw [I_sI, if_neg q2], fun _ _ => rfl⟩
  have hS2 := mq_S_r hV.1.1 hS hF
  rw [show (168 : Int32) + 15 * nI w + 1 = nI (168 + 15 * w + 1) from ixW w 1, at_233_8, at_233_26, at_233_28, nI_clamp (show 168 + 15 * w + 1 < 2 ^ 31 by omega), hS2.1 _ (show 168 + 15 * w + 1 < 1613 by omega), nI_clamp (show k < 2 ^ 31 by omega)]
  have hex : ∃ j, j < sp_cn s (D 2) ∧ sq_P (sq_A D l s w) g (2 ^ sp_cn s (D 2) - 1) 0 (qB (sq_A D l s w)) j := feas0 hA (show 0 < sp_cn s (D 2) by omega) hg hg2
  refine ⟨vp_in_nI (by omega) (by omega), m_try (u0 := u1) hV hw hc8 hg hg2 hS (sp_cn s (D 2)) 9 0 _ 0 0 (qB (sq_A D l s w)) _ (by omega) (by omega) hF (by omega) (cn_0 _) (by omega) (fun _ => ⟨rfl, rfl, rfl⟩) (fun z => absurd rfl z) (by omega) gb (by rw [I_sI, if_pos ⟨rfl, rfl⟩]) (fun u2 hF2 _ hout => ?_)⟩
  rw [Nat.sub_zero] at hout
  rcases hout with ⟨f1, f2, f3⟩ | ⟨f1, f2, f3⟩
  · have ho := f3 k hk
    rw [Nat.zero_add] at ho
    have hlt : sq_g (sq_A D l s w) g (sp_cn s (D 2)) (2 ^ sp_cn s (D 2) - 1) 0 (qB (sq_A D l s w)) k < sp_cn s (D 2) := g_lt hA hg2 (sp_cn s (D 2)) (2 ^ sp_cn s (D 2) - 1) 0 (qB (sq_A D l s w)) (show 2 ^ sp_cn s (D 2) - 1 < 2 ^ sp_cn s (D 2) by omega) (cn_full _ (by omega)) (fun _ => hex) k hk
    have hS3 := mq_S_r hV.1.1 hS hF2
    rw [ho, nI_clamp (by omega), hS3.2.2.2 _ hlt]
    exact ⟨vp_in_nI (by omega) (by omega), vp_in_nI (by omega) (by omega), hp u2 (mq_KM (sp_KM_tr KM_0 h1) (mr_mq hF2)) (by rw [hF2.1 233 0 (by omega) (by omega), z1]; rfl)⟩
  · exact absurd hex f3
theorem m_order_b1 (hV : sp_V D l) (hM : sp_M u 235 D) (hb : a < 0 ∨ nI (D 3) ≤ a) (hp : post 0 (ms_sI (ms_sI u 233 0 0) 233 0 1)) : wp_X11_soonestOrder ms_E0 u 233 a a2 a3 post := by
  have c3 := hV.1.2.2.2.1
  unfold wp_X11_soonestOrder
  exact noW_no (D := D) (M_t hM (by decide)) (by omega) hb rfl ⟨fun q => absurd q (by decide), fun _ => hp⟩
theorem m_order_b2 (hV : sp_V D l) (hM : sp_M u 235 D) (hw : w < D 3) (hb : st_no D a) (hp : post 0 (ms_sI (ms_sI u 233 0 0) 233 0 2)) : wp_X11_soonestOrder ms_E0 u 233 (nI w) a a3 post := by
  have c3 := hV.1.2.2.2.1
  have hM0 : sp_M (ms_sI u 233 0 0) 235 D := M_t hM (by decide)
  unfold wp_X11_soonestOrder wp_X11_soonestOrder_26 wp_X11_soonestOrder_31
  exact noW_ok (D := D) hM0 (by omega) hw rfl ⟨fun _ => m_isSet_no hV hM0 hb ⟨fun _ => fails_no rfl (by decide) (by decide) ⟨fun q => absurd q (by decide), fun _ => hp⟩, fun q => absurd rfl q⟩, fun q => absurd rfl q⟩
theorem m_order_b3 (hV : sp_V D l) (hM : sp_M u 235 D) (hw : w < D 3) (hs : s < 2 ^ D 2) (hc : sp_pc 16 s ≤ 8) (hb : ¬ 0 ≤ a3) (hp : post 0 (ms_sI (ms_sI u 233 0 0) 233 0 2)) : wp_X11_soonestOrder ms_E0 u 233 (nI w) (nI s) a3 post := by
  have c3 := hV.1.2.2.2.1
  have hM0 : sp_M (ms_sI u 233 0 0) 235 D := M_t hM (by decide)
  unfold wp_X11_soonestOrder wp_X11_soonestOrder_26 wp_X11_soonestOrder_31
  exact noW_ok (D := D) hM0 (by omega) hw rfl ⟨fun _ => m_isSet hV hM0 hs hc ⟨fun q => absurd q (by decide), fun _ => ⟨fun q => absurd q hb, fun _ => fails_no rfl (by decide) (by decide) ⟨fun q => absurd q (by decide), fun _ => hp⟩⟩⟩, fun q => absurd rfl q⟩
end SR
section SS
variable {Ln i : Nat} {xs : Nat → Int32} {k : ms_St → Prop} {u : ms_St}
theorem p_case_23 (h : sp_Inv u) (hL : Ln ≤ 3072) (hi : i + 6 ≤ Ln) (hk : ∀ u', sp_Inv u' → k u') : wp_case_23 ms_E0 Ln xs 0 233 529 (nI i) k u := by
  obtain ⟨D, l, h0, hc⟩ := h
  have hV := h0.1
  have hM := h0.2.1
  have hR := h0.2.2.1
  have b2 := hV.1.2.2.1
  have b3 := hV.1.2.2.2.1
  have hi1 : vp_in (nI i + 1) Ln := la_in hL hi (j := 1) (by omega)
  have hi2 : vp_in (nI i + 2) Ln := la_in hL hi (j := 2) (by omega)
  have hke : ∀ {v}, sp_KM u v → k v := fun q => hk _ (sp_Inv_q h0 sp_KC_refl hc q)
  unfold wp_case_23 wp_L_soonest
  refine ⟨hi1, hi2, ?_⟩
  generalize xs (Int32.toNatClampNeg (nI i + 1)) = a
  generalize xs (Int32.toNatClampNeg (nI i + 2)) = b
  rcases ix2 a (n := D 3) (by omega) with hb | ⟨w, hw, rfl⟩
  · unfold wp_X10_soonest
    exact ckW_no hR.1.2.2.2.2.2 (by omega) hb (Or.inl ⟨rfl, hi1, hi2, m_soonest_no hV hM hb (en_no rfl (by decide) (hke KM_00))⟩)
  · rcases st_or D b2 b with hb | ⟨s, hs, rfl, h8⟩
    · unfold wp_X10_soonest
      exact ckW_ok hR.1.2.2.2.2.2 (by omega) hw (ckSet_no hV hR hb (Or.inr ⟨rfl, hi1, hi2, m_soonest_no2 hV hM hw hb (en_no rfl (by decide) (hke KM_00))⟩))
    · refine c_soonest hV hR hc hw hs h8 (fun u1 h1 hc1 => ⟨in529, hi1, hi2, m_soonest hV (KC_M h1 hM) hw hs h8 (fun u2 h2 z => en_ok z ?_ (hk _ (sp_Inv_q h0 (sp_KC_sJ h1) hc1 h2)))⟩)
      rw [h2.2 0]; rfl
theorem p_case_24 (h : sp_Inv u) (hL : Ln ≤ 3072) (hi : i + 6 ≤ Ln) (hk : ∀ u', sp_Inv u' → k u') : wp_case_24 ms_E0 Ln xs 0 233 529 (nI i) k u := by
  obtain ⟨D, l, h0, hc⟩ := h
  have hV := h0.1
  have hM := h0.2.1
  have hR := h0.2.2.1
  have b2 := hV.1.2.2.1
  have b3 := hV.1.2.2.2.1
  have hi1 : vp_in (nI i + 1) Ln := la_in hL hi (j := 1) (by omega)
  have hi2 : vp_in (nI i + 2) Ln := la_in hL hi (j := 2) (by omega)
  have hi3 : vp_in (nI i + 3) Ln := la_in hL hi (j := 3) (by omega)
  have hke : ∀ {v}, sp_KM u v → k v := fun q => hk _ (sp_Inv_q h0 sp_KC_refl hc q)
  unfold wp_case_24 wp_L_soonestOrder
  refine ⟨hi1, hi2, hi3, ?_⟩
  generalize xs (Int32.toNatClampNeg (nI i + 1)) = a
  generalize xs (Int32.toNatClampNeg (nI i + 2)) = b
  generalize xs (Int32.toNatClampNeg (nI i + 3)) = c
  rcases ix2 a (n := D 3) (by omega) with hb | ⟨w, hw, rfl⟩
  · unfold wp_X10_soonestOrder
    exact ckW_no hR.1.2.2.2.2.2 (by omega) hb (Or.inl ⟨rfl, hi1, hi2, hi3, m_order_b1 hV hM hb (en_no rfl (by decide) (hke KM_00))⟩)
  · rcases st_or D b2 b with hb | ⟨s, hs, rfl, h8⟩
    · unfold wp_X10_soonestOrder
      exact ckW_ok hR.1.2.2.2.2.2 (by omega) hw (ckSet_no hV hR hb (Or.inr ⟨rfl, hi1, hi2, hi3, m_order_b2 hV hM hw hb (en_no rfl (by decide) (hke KM_00))⟩))
    · by_cases h0c : 0 ≤ c
      · have hc8 := st_cn b2 h8
        have none : (1000000 ≤ sq_se (sq_A D l s w) (2 ^ sp_cn s (D 2) - 1) ∨ nI (sp_cn s (D 2)) ≤ c) → wp_X10_soonestOrder ms_E0 u 0 (nI w) (nI s) c (fun r7 u7 => vp_in 0 (ms_N ms_E0 529) ∧ (fun r1346 u1346 => vp_in (nI i + 1) Ln ∧ (vp_in (nI i + 2) Ln ∧ (vp_in (nI i + 3) Ln ∧ (wp_X11_soonestOrder ms_E0 u1346 233 (nI w) (nI s) c (fun r1370 u1370 => en_i k r1346 r1370 u1370))))) 0 (ms_sJ u7 529 (Int32.toNatClampNeg 0) (Int32.toInt64 r7))) (fun X9 u7x => (X9 = "java/lang/IndexOutOfBoundsException" ∧ (fun r1346 u1346 => vp_in (nI i + 1) Ln ∧ (vp_in (nI i + 2) Ln ∧ (vp_in (nI i + 3) Ln ∧ (wp_X11_soonestOrder ms_E0 u1346 233 (nI w) (nI s) c (fun r1370 u1370 => en_i k r1346 r1370 u1370))))) 1 u7x) ∨ (X9 = "java/lang/IllegalArgumentException" ∧ (fun r1346 u1346 => vp_in (nI i + 1) Ln ∧ (vp_in (nI i + 2) Ln ∧ (vp_in (nI i + 3) Ln ∧ (wp_X11_soonestOrder ms_E0 u1346 233 (nI w) (nI s) c (fun r1370 u1370 => en_i k r1346 r1370 u1370))))) 2 u7x)) := by
          intro hn
          refine c_order_no hV hR hc hw hs h8 h0c hn (fun u1 h1 hc1 => ⟨in529, hi1, hi2, hi3, m_order_no hV (KC_M h1 hM) hw hs h8 h0c hn (fun u2 h2 z => en_ok z ?_ (hk _ (sp_Inv_q h0 (sp_KC_sJ h1) hc1 h2)))⟩)
          rw [h2.2 0]; rfl
        rcases ix2 c (n := sp_cn s (D 2)) (by omega) with hb | ⟨j, hj, rfl⟩
        · rcases hb with hb | hb
          · exact absurd h0c (Int32.not_le.mpr hb)
          · exact none (Or.inr hb)
        · by_cases hg : 1000000 ≤ sq_se (sq_A D l s w) (2 ^ sp_cn s (D 2) - 1)
          · exact none (Or.inl hg)
          · refine c_order hV hR hc hw hs h8 hj rfl (by omega) (fun u1 h1 hc1 => ⟨in529, hi1, hi2, hi3, m_order hV (KC_M h1 hM) hw hs h8 hj rfl (by omega) (fun u2 h2 z => en_ok z ?_ (hk _ (sp_Inv_q h0 (sp_KC_sJ h1) hc1 h2)))⟩)
            rw [h2.2 0]; rfl
      · unfold wp_X10_soonestOrder
        exact ckW_ok hR.1.2.2.2.2.2 (by omega) hw (ckSet_ok hV hR hs h8 ⟨fun q => absurd q h0c, fun _ => Or.inr ⟨rfl, hi1, hi2, hi3, m_order_b3 hV hM hw hs h8 h0c (en_no rfl (by decide) (hke KM_00))⟩⟩)
end SS
