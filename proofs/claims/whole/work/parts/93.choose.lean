/-! ===== the class's choice of houses ===== -/
def cq_F (u0 u : ms_St) : Prop := (∀ a b, ¬ (60 ≤ a ∧ a ≤ 72) → ms_I u a b = ms_I u0 a b) ∧ ms_J u = ms_J u0
def cq_N (u : ms_St) (D : Nat → Nat) (l : List ms_Op) (s c : Nat) : Prop := ms_I u 60 0 = nI (sp_cn s c) ∧ ∀ k, k < sp_cn s c → ms_I u 62 k = nI (sp_mb s c k) ∧ ms_I u 63 k = nI (D (56 + 7 * sp_mb s c k + 4)) ∧ ms_I u 64 k = nI (D (56 + 7 * sp_mb s c k + 5)) ∧ ms_I u 65 k = nI (sp_vis D l (sp_mb s c k) (D (56 + 7 * sp_mb s c k + 6)) 1)
def cq_W (u : ms_St) (D : Nat → Nat) (s i j : Nat) : Prop := ∀ a b, a < sp_cn s (D 2) → b < sp_cn s (D 2) → (a < i ∨ (a = i ∧ b < j)) → ms_I u 66 (a * 8 + b) = sp_td (sp_bt D (sp_mb s (D 2) a) (sp_mb s (D 2) b))
def cq_B (u : ms_St) (D : Nat → Nat) (l : List ms_Op) (s : Nat) : Prop := cq_N u D l s (D 2) ∧ cq_W u D s (sp_cn s (D 2)) 0
section SL
variable {D : Nat → Nat} {l : List ms_Op} {u u0 : ms_St} {s w i : Nat} {post : Int32 → ms_St → Prop} {pv : ms_St → Prop}
theorem cq_T (hF : cq_F u0 u) (hT : sp_R (sp_T u0 2) D l) : sp_R (sp_T u 2) D l := sp_R_eq (fun i b hi => hF.1 _ b (by omega)) hT
theorem cq_cw (hF : cq_F u0 u) (hW : sp_cw u0 D) : sp_cw u D := fun a b ha hb => by rw [hF.1 50 _ (by omega)]; exact hW a b ha hb
theorem cq_Fr {c : Nat} {u1 : ms_St} (hF : cq_F u0 u) (h : fr c u u1) (hc : 60 ≤ c ∧ c ≤ 72) : cq_F u0 u1 := ⟨fun a b q => (h.1 a b (by omega)).trans (hF.1 a b q), h.2.trans hF.2⟩
theorem c_ch8 (hV : sp_V D l) (hT : sp_R (sp_T u0 2) D l) (hs : s < 2 ^ 31) (hc : sp_cn s (D 2) ≤ 8) (hp : ∀ u', cq_F u0 u' → cq_N u' D l s (D 2) → ∃ n125, wp_X2_choose_125 ms_E0 60 2 49 (nI s) pv n125 u' 0) : ∀ m j u, j + m = D 2 → cq_F u0 u → cq_N u D l s j → wp_X2_choose_8 ms_E0 60 2 49 (nI s) pv (m + 1) u (nI j) := by
  have c2 := hV.1.2.2.1
  intro m
  induction m with
  | zero =>
    intro j u hj hF hN
    have e : j = D 2 := by omega
    subst e
    have e8 : ms_I u 8 0 = nI (D 2) := (cq_T hF hT).1.2.2.2.2.1
    unfold wp_X2_choose_8
    rw [at_2_4, e8]
    exact ⟨fun _ => hp u hF hN, fun q => absurd (nI_le (Nat.le_refl _) (by omega)) q⟩
  | succ m ih =>
    intro j u hj hF hN
    have hT' := cq_T hF hT
    have e8 : ms_I u 8 0 = nI (D 2) := hT'.1.2.2.2.2.1
    have hjD : j < D 2 := by omega
    have ih := fun u' => ih (j + 1) u' (by omega)
    unfold wp_X2_choose_8 wp_X2_choose_116
    rw [at_2_4, e8]
    refine ⟨fun q => absurd q (nI_ge (by omega) (by omega)), fun _ => q_cont hs (by omega) (fun b => ?_) (fun b => ?_)⟩
    · have cs : sp_cn s (j + 1) = sp_cn s j + 1 := by rw [cn_s, if_pos b]
      have c8 := cn_mono (s := s) (j + 1) (D 2) (by omega)
      obtain ⟨i0, hk⟩ := hN
      have vj : vp_in (nI j) 16 := vp_in_nI (by omega) (by omega)
      have vc : vp_in (nI (sp_cn s j)) 8 := vp_in_nI (by omega) (by omega)
      have r13 : ms_I u 13 j = nI (D (56 + 7 * j + 4)) := (hT'.2.2.1 j hjD).2.2.2.2.1
      have r14 : ms_I u 14 j = nI (D (56 + 7 * j + 5)) := (hT'.2.2.1 j hjD).2.2.2.2.2.1
      have e1 : ms_I (ms_sI u 62 (sp_cn s j) (nI j)) 60 0 = nI (sp_cn s j) := by rw [I_sI, if_neg (by omega)]; exact i0
      have e2 : ms_I (ms_sI u 62 (sp_cn s j) (nI j)) 13 j = nI (D (56 + 7 * j + 4)) := by rw [I_sI, if_neg (by omega)]; exact r13
      rw [i0, at_60_3, at_60_4, at_60_5, at_60_6, at_8_5, at_8_6, nI_clamp (show sp_cn s j < 2 ^ 31 by omega), nI_clamp (show j < 2 ^ 31 by omega), e1, e2, nI_clamp (show sp_cn s j < 2 ^ 31 by omega)]
      refine ⟨fun q => absurd q (nI_ge (b := 8) (by omega) (by decide)), fun _ => ⟨vc, vj, vc, fun w67 e67 => ?_⟩⟩
      have f1 : ms_I w67 60 0 = nI (sp_cn s j) := by rw [e67, I_sI, if_neg (by omega)]; exact e1
      have f2 : ms_I w67 14 j = nI (D (56 + 7 * j + 5)) := by rw [e67, I_sI, if_neg (by omega), I_sI, if_neg (by omega)]; exact r14
      rw [f1, f2, nI_clamp (show sp_cn s j < 2 ^ 31 by omega)]
      refine ⟨vj, vc, fun w86 e86 => ?_⟩
      have g1 : ms_I w86 60 0 = nI (sp_cn s j) := by rw [e86, I_sI, if_neg (by omega)]; exact f1
      have hF86 : cq_F u0 w86 := by
        refine ⟨fun x y q => ?_, by rw [e86, e67]; exact hF.2⟩
        rw [e86, e67, I_sI, if_neg (by omega), I_sI, if_neg (by omega), I_sI, if_neg (by omega)]
        exact hF.1 x y q
      rw [g1, nI_clamp (show sp_cn s j < 2 ^ 31 by omega)]
      refine c_visitTime (c := 1) hV (cq_T hF86 hT) hjD (by omega) ⟨vc, fun w113 e113 => ?_⟩
      have g2 : ms_I (ms_sI w86 65 (sp_cn s j) (nI (sp_vis D l j (D (56 + 7 * j + 6)) 1))) 60 0 + 1 = nI (sp_cn s j + 1) := by rw [I_sI, if_neg (by omega), g1, nI_1]
      rw [g2] at e113
      rw [nI_1]
      refine ih w113 ⟨fun x y q => ?_, by rw [e113]; exact hF86.2⟩ ⟨?_, fun k hk2 => ?_⟩
      · rw [e113, I_sI, if_neg (by omega), I_sI, if_neg (by omega)]
        exact hF86.1 x y q
      · rw [e113, I_sI, if_pos ⟨rfl, rfl⟩, cs]
      · rw [cs] at hk2
        rw [mb_s]
        by_cases q : k = sp_cn s j
        · rw [if_pos ⟨b, q⟩, q, e113, e86, e67]
          refine ⟨?_, ?_, ?_, ?_⟩ <;> simp [I_sI]
        · rw [if_neg (fun e => q e.2), e113, e86, e67]
          obtain ⟨r1, r2, r3, r4⟩ := hk k (by omega)
          refine ⟨?_, ?_, ?_, ?_⟩
          · simpa [I_sI, q] using r1
          · simpa [I_sI, q] using r2
          · simpa [I_sI, q] using r3
          · simpa [I_sI, q] using r4
    · have cs : sp_cn s (j + 1) = sp_cn s j := by rw [cn_s, if_neg (by rw [b]; decide)]; rfl
      rw [nI_1]
      refine ih u hF ⟨by rw [cs]; exact hN.1, fun k hk => ?_⟩
      rw [cs] at hk
      rw [mb_s, if_neg (fun e => by rw [b] at e; exact absurd e.1 (by decide))]
      exact hN.2 k hk
theorem N_fr {c : Nat} {u1 : ms_St} (h : fr c u u1) (hc : 66 ≤ c) (hN : cq_N u D l s i) : cq_N u1 D l s i := by
  refine ⟨by rw [h.1 60 0 (by omega)]; exact hN.1, fun k hk => ?_⟩
  rw [h.1 62 k (by omega), h.1 63 k (by omega), h.1 64 k (by omega), h.1 65 k (by omega)]
  exact hN.2 k hk
theorem c_ch137 {k125 : ms_St → Int32 → Prop} (hV : sp_V D l) (hT : sp_R (sp_T u0 2) D l) (hW : sp_cw u0 D) (hc : sp_cn s (D 2) ≤ 8) (hi : i < sp_cn s (D 2)) (hp : ∀ u', cq_F u0 u' → cq_N u' D l s (D 2) → cq_W u' D s (i + 1) 0 → k125 u' (nI (i + 1))) : ∀ m j u, j + m = sp_cn s (D 2) → cq_F u0 u → cq_N u D l s (D 2) → cq_W u D s i j → wp_X2_choose_137 ms_E0 60 2 49 (nI s) pv k125 (m + 1) u (nI i) (nI j) := by
  intro m
  induction m with
  | zero =>
    intro j u hj hF hN hw
    have e : j = sp_cn s (D 2) := by omega
    unfold wp_X2_choose_137
    rw [hN.1, e, nI_1]
    rw [e] at hw
    exact ⟨fun _ => hp u hF hN (fun a b h1 h2 h3 => hw a b h1 h2 (by omega)), fun q => absurd (nI_le (Nat.le_refl _) (by omega)) q⟩
  | succ m ih =>
    intro j u hj hF hN hw
    have r1 := (hN.2 i hi).1
    have r2 := (hN.2 j (by omega)).1
    unfold wp_X2_choose_137
    rw [hN.1, at_60_3, at_60_7, nI_clamp (show i < 2 ^ 31 by omega), nI_clamp (show j < 2 ^ 31 by omega), r1, r2, show (8 : Int32) = nI 8 from rfl, pk_mul, nI_add, nI_clamp (by omega), nI_1 j]
    refine ⟨fun q => absurd q (nI_ge (by omega) (by omega)), fun _ => ⟨vp_in_nI (by omega) (by omega), vp_in_nI (by omega) (by omega), c_between hV (cq_T hF hT) (cq_cw hF hW) (mb_p _ _ hi).1 (mb_p _ _ (by omega)).1 ⟨vp_in_nI (by omega) (by omega), ?_⟩⟩⟩
    have hr : fr 66 u (ms_sI u 66 (i * 8 + j) (sp_td (sp_bt D (sp_mb s (D 2) i) (sp_mb s (D 2) j)))) := fr_w ⟨fun _ _ _ => rfl, rfl⟩
    refine ih (j + 1) _ (by omega) (cq_Fr hF hr (by omega)) (N_fr hr (by omega) hN) (fun a b h1 h2 h3 => ?_)
    rw [I_sI]
    by_cases q : a = i ∧ b = j
    · rw [if_pos ⟨rfl, by rw [q.1, q.2]⟩, q.1, q.2]
    · rw [if_neg (by omega)]
      exact hw a b h1 h2 (by omega)
theorem c_ch125 (hV : sp_V D l) (hT : sp_R (sp_T u0 2) D l) (hW : sp_cw u0 D) (hc : sp_cn s (D 2) ≤ 8) (hp : ∀ u', cq_F u0 u' → cq_B u' D l s → pv u') : ∀ m i u, i + m = sp_cn s (D 2) → cq_F u0 u → cq_N u D l s (D 2) → cq_W u D s i 0 → wp_X2_choose_125 ms_E0 60 2 49 (nI s) pv (m + 1) u (nI i) := by
  intro m
  induction m with
  | zero =>
    intro i u hj hF hN hw
    have e : i = sp_cn s (D 2) := by omega
    unfold wp_X2_choose_125
    rw [hN.1, e]
    rw [e] at hw
    exact ⟨fun _ => hp u hF ⟨hN, hw⟩, fun q => absurd (nI_le (Nat.le_refl _) (by omega)) q⟩
  | succ m ih =>
    intro i u hj hF hN hw
    unfold wp_X2_choose_125
    rw [hN.1]
    exact ⟨fun q => absurd q (nI_ge (by omega) (by omega)), fun _ => ⟨sp_cn s (D 2) + 1, c_ch137 hV hT hW hc (by omega) (fun u' h1 h2 h3 => ih (i + 1) u' (by omega) h1 h2 h3) _ 0 u (by omega) hF hN hw⟩⟩
theorem c_choose (hV : sp_V D l) (hT : sp_R (sp_T u 2) D l) (hW : sp_cw u D) (hs : s < 2 ^ 31) (hc : sp_cn s (D 2) ≤ 8) (hp : ∀ u', cq_F u u' → cq_B u' D l s → pv u') : wp_X2_choose ms_E0 u 60 2 49 (nI s) pv := by
  unfold wp_X2_choose
  refine ⟨D 2 + 1, c_ch8 hV hT hs hc (fun u' hF hN => ⟨sp_cn s (D 2) + 1, c_ch125 hV hT hW hc hp _ 0 u' (by omega) hF hN (fun a b _ _ h => by omega)⟩) (D 2) 0 _ (by omega) ⟨fun a b q => ?_, rfl⟩ ⟨?_, fun k hk => ?_⟩⟩
  · rw [I_sI, if_neg (by omega)]
  · rw [I_sI, if_pos ⟨rfl, rfl⟩]; rfl
  · simp [sp_cn] at hk
/-- what beginAt changes -/
def bg_F (u u' : ms_St) : Prop := (∀ a b, a ≠ 67 → ¬ (a = 60 ∧ b = 9) → ms_I u' a b = ms_I u a b) ∧ ms_J u' = ms_J u
theorem bg_cq (h : bg_F u u0) : cq_F u u0 := ⟨fun a b q => h.1 a b (by omega) (by omega), h.2⟩
theorem c_beginAt (hV : sp_V D l) (hT : sp_R (sp_T u 2) D l) (hW : sp_cw u D) (hc : sp_cn s (D 2) ≤ 8) (hw : w < D 3) (hB : cq_B u D l s) (hp : ∀ u', bg_F u u' → cq_A u' (sq_A D l s w) → pv u') : wp_X2_beginAt ms_E0 u 60 2 49 (nI w) pv := by
  have c3 := hV.1.2.2.2.1
  have e17 : ms_I u 17 0 = nI (D 3) := hT.1.2.2.2.2.2
  have e19 : ms_I u 19 w = nI (D (168 + 15 * w + 1)) := (hT.2.2.2 w hw).2.1
  have e18 : ms_I u 18 w = nI (D (168 + 15 * w)) := (hT.2.2.2 w hw).1
  have vw : vp_in (nI w) 3 := vp_in_nI (by omega) (by omega)
  unfold wp_X2_beginAt
  rw [q_X9_has, at_2_5, at_17_2, e17, if_pos (good01 (by omega) hw), nI_clamp (show w < 2 ^ 31 by omega), e19]
  refine ⟨fun q => absurd q (by decide), fun _ => ⟨vw, sp_cn s (D 2) + 1, ?_⟩⟩
  have st : ∀ m j v, j + m = sp_cn s (D 2) → bg_F u v → ms_I v 60 9 = nI (D (168 + 15 * w + 1)) → (∀ k, k < j → ms_I v 67 k = sp_td (sp_fc D (D (168 + 15 * w)) (sp_mb s (D 2) k))) → wp_X2_beginAt_28 ms_E0 60 2 49 (nI w) pv (m + 1) v (nI j) := by
    intro m
    induction m with
    | zero =>
      intro j v hj hF h9 hk
      have e : j = sp_cn s (D 2) := by omega
      have i0 : ms_I v 60 0 = nI (sp_cn s (D 2)) := by rw [hF.1 60 0 (by omega) (by omega)]; exact hB.1.1
      unfold wp_X2_beginAt_28
      rw [i0, e]
      rw [e] at hk
      refine ⟨fun _ => hp v hF ⟨i0, h9, fun k hk2 => ?_⟩, fun q => absurd (nI_le (Nat.le_refl _) (by omega)) q⟩
      obtain ⟨r1, r2, r3, r4⟩ := hB.1.2 k hk2
      rw [hF.1 63 k (by omega) (by omega), hF.1 64 k (by omega) (by omega), hF.1 65 k (by omega) (by omega)]
      refine ⟨r2, r3, r4, hk k hk2, fun j hj => ?_⟩
      have hj : j < sp_cn s (D 2) := hj
      rw [hF.1 66 _ (by omega) (by omega)]
      exact hB.2 j k hj hk2 (by omega)
    | succ m ih =>
      intro j v hj hF h9 hk
      have hj2 : j < sp_cn s (D 2) := by omega
      have i0 : ms_I v 60 0 = nI (sp_cn s (D 2)) := by rw [hF.1 60 0 (by omega) (by omega)]; exact hB.1.1
      have i1 : ms_I v 18 w = nI (D (168 + 15 * w)) := by rw [hF.1 18 w (by omega) (by omega)]; exact e18
      have i2 : ms_I v 62 j = nI (sp_mb s (D 2) j) := by rw [hF.1 62 j (by omega) (by omega)]; exact (hB.1.2 j hj2).1
      unfold wp_X2_beginAt_28
      rw [i0, at_2_5, at_17_1, at_60_3, at_60_8, nI_clamp (show w < 2 ^ 31 by omega), nI_clamp (show j < 2 ^ 31 by omega), i1, i2, nI_1]
      refine ⟨fun q => absurd q (nI_ge (by omega) (by omega)), fun _ => ⟨vw, vp_in_nI (by omega) (by omega), c_fromCrossing hV (cq_T (bg_cq hF) hT) (cq_cw (bg_cq hF) hW) (hV.2.2.2.1 w hw).1 (mb_p _ _ hj2).1 ⟨vp_in_nI (by omega) (by omega), ih (j + 1) _ (by omega) ⟨fun a b q1 q2 => ?_, hF.2⟩ ?_ (fun k hk2 => ?_)⟩⟩⟩
      · rw [I_sI, if_neg (by omega)]; exact hF.1 a b q1 q2
      · rw [I_sI, if_neg (by omega)]; exact h9
      · rw [I_sI]
        by_cases q : k = j
        · rw [if_pos ⟨rfl, q⟩, q]
        · rw [if_neg (by omega)]; exact hk k (by omega)
  refine st _ 0 _ (by omega) ⟨fun a b q1 q2 => ?_, rfl⟩ ?_ (fun k hk => by omega)
  · rw [I_sI, if_neg q2]
  · rw [I_sI, if_pos ⟨rfl, rfl⟩]
theorem c_soonestEnd (hV : sp_V D l) (hT : sp_R (sp_T u 2) D l) (hW : sp_cw u D) (hs : s < 2 ^ 31) (hc : sp_cn s (D 2) ≤ 8) (hw : w < D 3) (hp : ∀ u', cq_F u u' → cq_A u' (sq_A D l s w) → (∀ k, k < sp_cn s (D 2) → ms_I u' 62 k = nI (sp_mb s (D 2) k)) → post (sp_td (sq_se (sq_A D l s w) (2 ^ sp_cn s (D 2) - 1))) u') : wp_X2_soonestEnd ms_E0 u 60 2 49 (nI w) (nI s) post := by
  have hA := sq_A_ok (s := s) (w := w) hV hw hc
  have p := Nat.two_pow_pos (sp_cn s (D 2))
  unfold wp_X2_soonestEnd
  refine c_choose hV hT hW hs hc (fun u1 hF1 hB => c_beginAt hV (cq_T hF1 hT) (cq_cw hF1 hW) hc hw hB (fun u2 hF2 hu2 => c_findEarly hA hu2 (fun u3 hF3 hT3 => ?_)))
  have hu3 := fr_A hF3 (by omega) hu2
  have i0 : ms_I u3 60 0 = nI (sp_cn s (D 2)) := hu3.1
  have e : nI (2 ^ sp_cn s (D 2)) - 1 = nI (2 ^ sp_cn s (D 2) - 1) := pk_sub (b := 1) p
  rw [i0, bt_1 (by omega), e]
  have hcq : cq_F u u2 := ⟨fun a b q => ((bg_cq hF2).1 a b q).trans (hF1.1 a b q), hF2.2.trans hF1.2⟩
  refine c_earliestEnd hA hu3 (show 2 ^ sp_cn s (D 2) - 1 < 2 ^ sp_cn s (D 2) by omega) hT3 (hp u3 (cq_Fr hcq hF3 (by omega)) hu3 (fun k hk => ?_))
  rw [hF3.1 62 k (by omega), hF2.1 62 k (by omega) (by omega)]
  exact (hB.1.2 k hk).1
end SL
