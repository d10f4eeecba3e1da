/-! ===== the reference's search ===== -/
def mq_F (u0 u : ms_St) : Prop := (∀ a b, ¬ (265 ≤ a ∧ a ≤ 528) → ¬ (a = 233 ∧ 25 ≤ b) → ms_I u a b = ms_I u0 a b) ∧ ∀ a, a ≠ 257 → ms_J u a = ms_J u0 a
def mq_N (u : ms_St) (s c : Nat) : Prop := ms_I u 233 27 = nI (sp_cn s c) ∧ ∀ k, k < sp_cn s c → ms_I u 522 k = nI (sp_mb s c k)
def mq_S (u : ms_St) (D : Nat → Nat) (s : Nat) : Prop := sp_M u 235 D ∧ fm_W u D ∧ mq_N u s (D 2)
def mt_F (u0 u : ms_St) : Prop := (∀ a b, ¬ (266 ≤ a ∧ a ≤ 521) → ms_I u a b = ms_I u0 a b) ∧ ∀ a, a ≠ 257 → ms_J u a = ms_J u0 a
def me_T (u : ms_St) (A : ms_Q) (s j : Nat) : Prop := ∀ r k, k < qM A → r.testBit k = true → (r < s ∨ (r = s ∧ k < j)) → ms_I u (266 + r) k = nI (sq_e A r k)
theorem w_s {A : ms_Q} {j k : Nat} : sq_w A (j + 1) k = qW A j k := rfl
theorem w_0 {A : ms_Q} {k : Nat} : sq_w A 0 k = qF A k := rfl
section SO
variable {D : Nat → Nat} {l : List ms_Op} {u u0 : ms_St} {s w k t h x r : Nat} {post : Int32 → ms_St → Prop} {pv : ms_St → Prop}
theorem mq_S_I {u' : ms_St} (hS : mq_S u D s) (hI : ms_I u' = ms_I u) : mq_S u' D s := by
  obtain ⟨a, b, c⟩ := hS
  unfold mq_S sp_M fm_W mq_N
  rw [hI]
  exact ⟨a, b, c⟩
theorem mq_S_t {u' : ms_St} (hD : D 0 ≤ 10) (hS : mq_S u D s) (hF : mt_F u u') : mq_S u' D s := by
  obtain ⟨a, b, c, d⟩ := hS
  exact ⟨sp_M_eq (fun b => hF.1 235 b (by omega)) a, fun i j hi hj => by rw [hF.1 _ _ (by omega)]; exact b i j hi hj, by rw [hF.1 233 27 (by omega)]; exact c, fun k hk => by rw [hF.1 522 k (by omega)]; exact d k hk⟩
theorem m_lays (hV : sp_V D l) (hM : sp_M u 235 D) (hW : fm_W u D) (hs : s < 2 ^ 31) (hc : sp_cn s (D 2) ≤ 8) (hp : ∀ u', mq_F u u' → mq_S u' D s → pv u') : wp_X11_lays ms_E0 u 233 (nI s) pv := by
  have c2 := hV.1.2.2.1
  have c0 := hV.1.1
  have st : ∀ m j v, j + m = D 2 → (∀ a b, a ≠ 522 → ¬ (a = 233 ∧ b = 27) → ms_I v a b = ms_I u a b) → ms_J v = ms_J u → mq_N v s j → wp_X11_lays_7 ms_E0 233 (nI s) pv (m + 1) v (nI j) := by
    intro m
    induction m with
    | zero =>
      intro j v hj hF hJ hN
      have e : j = D 2 := by omega
      subst e
      have e2 : ms_I v 235 2 = nI (D 2) := by rw [hF 235 2 (by omega) (by omega)]; exact hM 2 (by omega)
      unfold wp_X11_lays_7
      rw [at_233_8, show Int32.toNatClampNeg 2 = 2 from rfl, e2]
      refine ⟨vi 2 1613, fun _ => hp v ⟨fun a b q1 q2 => hF a b (by omega) (by omega), fun a _ => by rw [hJ]⟩ ⟨sp_M_eq (fun b => hF 235 b (by omega) (by omega)) hM, fun a b ha hb => ?_, hN⟩, fun q => absurd (nI_le (Nat.le_refl _) (by omega)) q⟩
      rw [hF _ b (by omega) (by omega)]
      exact hW a b ha hb
    | succ m ih =>
      intro j v hj hF hJ hN
      have e2 : ms_I v 235 2 = nI (D 2) := by rw [hF 235 2 (by omega) (by omega)]; exact hM 2 (by omega)
      unfold wp_X11_lays_7 wp_X11_lays_48
      rw [at_233_8, at_233_26, show Int32.toNatClampNeg 2 = 2 from rfl, e2, nI_1 j]
      refine ⟨vi 2 1613, fun q => absurd q (nI_ge (by omega) (by omega)), fun _ => bt_0A hs (by omega) (fun b => ?_) (fun b => ?_)⟩
      · have cs : sp_cn s (j + 1) = sp_cn s j := by rw [cn_s, if_neg (by rw [b]; decide)]; rfl
        refine ih (j + 1) v (by omega) hF hJ ⟨by rw [cs]; exact hN.1, fun k hk => ?_⟩
        rw [cs] at hk
        rw [mb_s, if_neg (fun e => by rw [b] at e; exact absurd e.1 (by decide))]
        exact hN.2 k hk
      · have cs : sp_cn s (j + 1) = sp_cn s j + 1 := by rw [cn_s, if_pos b]
        have c8 := cn_mono (s := s) (j + 1) (D 2) (by omega)
        obtain ⟨i0, hk⟩ := hN
        have e3 : ms_I (ms_sI v 522 (sp_cn s j) (nI j)) 233 27 + 1 = nI (sp_cn s j + 1) := by rw [I_sI, if_neg (by omega), i0, nI_1]
        rw [i0, nI_clamp (by omega), e3]
        refine ⟨vp_in_nI (by omega) (by omega), fun w45 e45 => ?_⟩
        subst e45
        refine ih (j + 1) _ (by omega) (fun a b q1 q2 => ?_) hJ ⟨?_, fun k hk2 => ?_⟩
        · rw [I_sI, if_neg q2, I_sI, if_neg (by omega)]; exact hF a b q1 q2
        · rw [I_sI, if_pos ⟨rfl, rfl⟩, cs]
        · rw [cs] at hk2
          rw [I_sI, if_neg (by omega), I_sI, mb_s]
          by_cases q : k = sp_cn s j
          · rw [if_pos ⟨rfl, q⟩, if_pos ⟨b, q⟩]
          · rw [if_neg (by omega), if_neg (fun e => q e.2)]
            exact hk k (by omega)
  unfold wp_X11_lays
  refine ⟨D 2 + 1, st (D 2) 0 _ (by omega) (fun a b q1 q2 => ?_) rfl ⟨?_, fun k hk => ?_⟩⟩
  · rw [I_sI, if_neg q2]
  · rw [I_sI, if_pos ⟨rfl, rfl⟩]; rfl
  · simp [sp_cn] at hk
theorem m_after (hV : sp_V D l) (hM : sp_M u 235 D) (hh : h < D 2) (hx : x < 2 ^ 30) (hp : ∀ u', ms_I u' = ms_I u → (∀ a, a ≠ 257 → ms_J u' a = ms_J u a) → post (nI (if D (56 + 7 * h + 5) ≤ x then 1000000 else (if x < D (56 + 7 * h + 4) then D (56 + 7 * h + 4) else x) + sp_vis D l h (D (56 + 7 * h + 6)) 1)) u') : wp_X11_after ms_E0 u 233 (nI x) (nI h) post := by
  have c2 := hV.1.2.2.1
  have v := hV.2.2.1 h hh
  have v4 : vp_in (nI (56 + 7 * h + 4)) 1613 := vp_in_nI (by omega) (by omega)
  unfold wp_X11_after wp_X11_after_48 wp_X11_house
  dsimp only
  rw [show (56 : Int32) + 7 * nI h + 4 = nI (56 + 7 * h + 4) from ixH h 4, show (56 : Int32) + 7 * nI h + 5 = nI (56 + 7 * h + 5) from ixH h 5, at_233_8, nI_clamp (show 56 + 7 * h + 4 < 2 ^ 31 by omega), nI_clamp (show 56 + 7 * h + 5 < 2 ^ 31 by omega), hM _ (show 56 + 7 * h + 4 < 1613 by omega), hM _ (show 56 + 7 * h + 5 < 1613 by omega)]
  refine ⟨vp_in_nI (by omega) (by omega), pk_lt x (D (56 + 7 * h + 5)) (fun q => ⟨v4, pk_le (D (56 + 7 * h + 4)) x (fun q2 => m_visit (c := 1) hV hM hh (by omega) (fun u' hI hJ => ?_)) (fun q2 => ⟨v4, m_visit (c := 1) hV hM hh (by omega) (fun u' hI hJ => ?_)⟩)⟩) (fun q => ?_)⟩
  · have := hp u' hI hJ
    rw [if_neg (by omega), if_neg (by omega)] at this
    rw [nI_add]
    exact this
  · have := hp u' hI hJ
    rw [if_neg (by omega), if_pos (by omega)] at this
    rw [nI_add]
    exact this
  · have := hp u rfl (fun _ _ => rfl)
    rw [if_pos q] at this
    exact this
theorem m_goesOn {last : Nat} (hV : sp_V D l) (hw : w < D 3) (hc : sp_cn s (D 2) ≤ 8) (hS : mq_S u D s) (hk : k < sp_cn s (D 2)) (hl : last ≤ sp_cn s (D 2)) (ht : t < 2 ^ 29) (hp : ∀ u', ms_I u' = ms_I u → (∀ a, a ≠ 257 → ms_J u' a = ms_J u a) → post (nI (sq_gn (sq_A D l s w) k (sq_w (sq_A D l s w) last k) t)) u') : wp_X11_goesOn ms_E0 u 233 (nI w) (sm_pl last) (nI k) (nI t) post := by
  obtain ⟨hM, hW, hN⟩ := hS
  have c3 := hV.1.2.2.2.1
  have mk := (mb_p _ _ hk).1
  have go : ∀ (z : Int32) (way : Nat), way < 2 ^ 29 → sq_w (sq_A D l s w) last k = way → wp_X11_goesOn_42 ms_E0 233 (nI w) z (nI k) (nI t) post u (nI way) := by
    intro z way hway e
    unfold wp_X11_goesOn_42 wp_X11_goesOn_58 wp_X11_goesOn_78
    rw [e] at hp
    unfold sq_gn at hp
    refine pk_le 1000000 way (fun q => ?_) (fun q => pk_lt t 1000000 (fun q2 => ⟨vp_in_nI (by omega) (by omega), ?_⟩) (fun q2 => ?_))
    · have := hp u rfl (fun _ _ => rfl)
      rw [if_pos (Or.inl q)] at this
      exact this
    · rw [at_233_26, nI_clamp (by omega), hN.2 k hk, nI_add]
      refine m_after (l := l) hV hM mk (by omega) (fun u' hI hJ => ?_)
      have := hp u' hI hJ
      rw [if_neg (by omega)] at this
      exact this
    · have := hp u rfl (fun _ _ => rfl)
      rw [if_pos (Or.inr q2)] at this
      exact this
  unfold wp_X11_goesOn wp_X11_walker
  refine pl_le (by omega) (fun j q => ?_) (fun q => ?_)
  · subst q
    have b := bt_lt hV (mb_p (s := s) (D 2) j (by omega)).1 mk
    rw [pl_s, at_233_26, nI_clamp (show j < 2 ^ 31 by omega), nI_clamp (show k < 2 ^ 31 by omega), hN.2 j (by omega), hN.2 k hk]
    exact ⟨vp_in_nI (by omega) (by omega), vp_in_nI (by omega) (by omega), m_between hV hM hW (mb_p (s := s) (D 2) j (by omega)).1 mk (go _ _ (by omega) rfl)⟩
  · subst q
    have b := fc_lt (c := D (168 + 15 * w)) hV mk
    rw [ixW0, at_233_8, at_233_26, nI_clamp (show 168 + 15 * w < 2 ^ 31 by omega), nI_clamp (show k < 2 ^ 31 by omega), hM _ (by omega), hN.2 k hk]
    exact ⟨vp_in_nI (by omega) (by omega), vp_in_nI (by omega) (by omega), m_fromCrossing hV hM hW (hV.2.2.2.1 w hw).1 mk (go _ _ (by omega) rfl)⟩
theorem m_fS73 {k2 : ms_St → Int32 → Prop} {k14 : ms_St → Int32 → Int32 → Prop} (hV : sp_V D l) (hw : w < D 3) (hc : sp_cn s (D 2) ≤ 8) (hS0 : mq_S u0 D s) (hr : r < 2 ^ sp_cn s (D 2)) (hk : k < sp_cn s (D 2)) (hb : r.testBit k = true) (hp : ∀ u', mt_F u0 u' → me_T u' (sq_A D l s w) r (k + 1) → k14 u' (nI r) (nI (k + 1))) : ∀ m j u, j + m = sp_cn s (D 2) → mt_F u0 u → me_T u (sq_A D l s w) r k → wp_X11_findSoonest_73 ms_E0 233 (nI w) pv k2 k14 (m + 1) u (nI r) (nI k) (nI (r - 2 ^ k)) (nI (if r - 2 ^ k = 0 then sq_gn (sq_A D l s w) k (qF (sq_A D l s w) k) (qB (sq_A D l s w)) else sq_mn (fun j => sq_gn (sq_A D l s w) k (qW (sq_A D l s w) j k) (sq_e (sq_A D l s w) (r - 2 ^ k) j)) (r - 2 ^ k) j)) (nI j) := by
  have hA := sq_A_ok (s := s) (w := w) hV hw hc
  have h8 := pw8 _ hc
  have c0 := hV.1.1
  obtain ⟨b1, b2, b3⟩ := bx r (by omega) k (by omega) hb
  intro m
  induction m with
  | zero =>
    intro j u hj hF hT
    have e : j = sp_cn s (D 2) := by omega
    have ee := sq_e_eq (A := sq_A D l s w) hA.1 (show r < 256 by omega) (show k < 8 by omega) hb
    rw [show qM (sq_A D l s w) = j from e.symm] at ee
    rw [← ee]
    have hS := mq_S_t c0 hS0 hF
    unfold wp_X11_findSoonest_73 wp_X11_findSoonest_134
    rw [hS.2.2.1, at_233_25, nI_clamp (show r < 2 ^ 31 by omega), nI_clamp (show k < 2 ^ 31 by omega), at_265 r (by omega), nI_1 k]
    refine ⟨fun _ => ⟨vp_in_nI (by omega) (by omega), vp_in_nI (by omega) (by omega), hp _ ⟨fun a b q => ?_, hF.2⟩ (fun x y h1 h2 h3 => ?_)⟩, fun q => absurd (nI_le (by omega) (by omega)) q⟩
    · rw [I_sI, if_neg (by omega)]; exact hF.1 a b q
    · rw [I_sI]
      by_cases q : x = r ∧ y = k
      · rw [if_pos ⟨by rw [q.1], q.2⟩, q.1, q.2]
      · rw [if_neg (by omega)]
        exact hT x y h1 h2 (by omega)
  | succ m ih =>
    intro j u hj hF hT
    have hS := mq_S_t c0 hS0 hF
    have hj2 : j < sp_cn s (D 2) := by omega
    unfold wp_X11_findSoonest_73 wp_X11_findSoonest_118
    rw [hS.2.2.1, nI_1 j]
    refine ⟨fun q => absurd q (nI_ge (by omega) (by omega)), fun _ => bt_1A (by omega) (by omega) (fun b => ?_) (fun b => ?_)⟩
    · have hn0 : ¬ r - 2 ^ k = 0 := fun z => by rw [z] at b; simp at b
      have ih := fun u' => ih (j + 1) u' (by omega)
      rw [if_neg hn0, mn_s, if_pos b] at ih
      rw [at_233_25, nI_clamp (show r - 2 ^ k < 2 ^ 31 by omega), nI_clamp (show j < 2 ^ 31 by omega), at_265 _ (show r - 2 ^ k < 256 by omega), hT (r - 2 ^ k) j hj2 b (by omega), if_neg hn0]
      have ev := e_v hA (show r - 2 ^ k < 256 by omega) hj2 b
      have gv := gn_v (way := qW (sq_A D l s w) j k) (t := sq_e (sq_A D l s w) (r - 2 ^ k) j) hA hk
      have mv := mn_le (f := fun j => sq_gn (sq_A D l s w) k (qW (sq_A D l s w) j k) (sq_e (sq_A D l s w) (r - 2 ^ k) j)) (s := r - 2 ^ k) j
      refine ⟨vp_in_nI (by omega) (by omega), vp_in_nI (by omega) (by omega), m_goesOn (last := j + 1) (l := l) hV hw hc hS hk (by omega) (by omega) (fun u' hI hJ => ?_)⟩
      rw [q_X11_min, w_s, nI_min (by omega) (by omega)]
      refine ih u' ⟨fun a b q => by rw [hI]; exact hF.1 a b q, fun a q => by rw [hJ a q]; exact hF.2 a q⟩ (fun x y h1 h2 h3 => ?_)
      rw [hI]
      exact hT x y h1 h2 h3
    · have ih := ih (j + 1) u (by omega) hF hT
      rw [mn_s, if_neg (show ¬ (r - 2 ^ k).testBit j = true by rw [b]; decide)] at ih
      exact ih
theorem m_fS14 {k2 : ms_St → Int32 → Prop} (hV : sp_V D l) (hw : w < D 3) (hc : sp_cn s (D 2) ≤ 8) (hS0 : mq_S u0 D s) (hr : r < 2 ^ sp_cn s (D 2)) (hp : ∀ u', mt_F u0 u' → me_T u' (sq_A D l s w) (r + 1) 0 → k2 u' (nI (r + 1))) : ∀ m k u, k + m = sp_cn s (D 2) → mt_F u0 u → me_T u (sq_A D l s w) r k → wp_X11_findSoonest_14 ms_E0 233 (nI w) pv k2 (m + 1) u (nI r) (nI k) := by
  have hA := sq_A_ok (s := s) (w := w) hV hw hc
  have h8 := pw8 _ hc
  have c0 := hV.1.1
  have c3 := hV.1.2.2.2.1
  intro m
  induction m with
  | zero =>
    intro k u hj hF hT
    have hS := mq_S_t c0 hS0 hF
    unfold wp_X11_findSoonest_14
    rw [hS.2.2.1, nI_1 r]
    refine ⟨fun _ => hp u hF (fun x y h1 h2 h3 => hT x y h1 h2 ?_), fun q => absurd (nI_le (by omega) (by omega)) q⟩
    have : y < sp_cn s (D 2) := h1
    omega
  | succ m ih =>
    intro k u hj hF hT
    have hS := mq_S_t c0 hS0 hF
    have hk : k < sp_cn s (D 2) := by omega
    have ih := fun u' => ih (k + 1) u' (by omega)
    unfold wp_X11_findSoonest_14 wp_X11_findSoonest_68 wp_X11_findSoonest_134 wp_X11_walker
    rw [hS.2.2.1, nI_1 k]
    refine ⟨fun q => absurd q (nI_ge (by omega) (by omega)), fun _ => bt_0A (by omega) (by omega) (fun b => ?_) (fun b => ?_)⟩
    · refine ih u hF (fun x y h1 h2 h3 => hT x y h1 h2 ?_)
      by_cases q : x = r ∧ y = k
      · rw [q.1, q.2, b] at h2
        exact absurd h2 (by decide)
      · omega
    · obtain ⟨b1, b2, b3⟩ := bx r (by omega) k (by omega) b
      rw [bt_1 (by omega), pk_sub b3]
      intro v38 e38
      subst e38
      dsimp only
      rw [show (168 : Int32) + 15 * nI w + 1 = nI (168 + 15 * w + 1) from ixW w 1, at_233_8, nI_clamp (show 168 + 15 * w + 1 < 2 ^ 31 by omega), hS.1 _ (show 168 + 15 * w + 1 < 1613 by omega)]
      have main := fun v (hFv : mt_F u0 v) (hTv : me_T v (sq_A D l s w) r k) => m_fS73 (pv := pv) (k2 := k2) (k14 := wp_X11_findSoonest_14 ms_E0 233 (nI w) pv k2 (m + 1)) hV hw hc hS0 hr hk b (fun u' h1 h2 => ih u' h1 h2) (sp_cn s (D 2)) 0 v (by omega) hFv hTv
      have tb := (hV.2.2.2.1 w hw).2.1
      refine pk_eq (r - 2 ^ k) 0 (fun q => ⟨vp_in_nI (by omega) (by omega), m_goesOn (last := 0) (l := l) hV hw hc hS hk (by omega) (by omega) (fun u' hI hJ => ⟨sp_cn s (D 2) + 1, ?_⟩)⟩) (fun q => ⟨sp_cn s (D 2) + 1, ?_⟩)
      · have := main u' ⟨fun a b q => by rw [hI]; exact hF.1 a b q, fun a q => by rw [hJ a q]; exact hF.2 a q⟩ (fun x y h1 h2 h3 => by rw [hI]; exact hT x y h1 h2 h3)
        rw [if_pos q] at this
        exact this
      · have := main u hF hT
        rw [if_neg q] at this
        exact this
theorem m_findSoonest (hV : sp_V D l) (hw : w < D 3) (hc : sp_cn s (D 2) ≤ 8) (hS0 : mq_S u D s) (hp : ∀ u', mt_F u u' → me_T u' (sq_A D l s w) (2 ^ sp_cn s (D 2)) 0 → pv u') : wp_X11_findSoonest ms_E0 u 233 (nI w) pv := by
  have h8 := pw8 _ hc
  have c0 := hV.1.1
  have p := Nat.two_pow_pos (sp_cn s (D 2))
  have st : ∀ m r v, r + m = 2 ^ sp_cn s (D 2) → mt_F u v → me_T v (sq_A D l s w) r 0 → wp_X11_findSoonest_2 ms_E0 233 (nI w) pv (m + 1) v (nI r) := by
    intro m
    induction m with
    | zero =>
      intro r v hj hF hT
      have e : r = 2 ^ sp_cn s (D 2) := by omega
      have hS := mq_S_t c0 hS0 hF
      unfold wp_X11_findSoonest_2
      rw [hS.2.2.1, bt_1 (by omega), e]
      rw [e] at hT
      exact ⟨fun _ => hp v hF hT, fun q => absurd (nI_le (Nat.le_refl _) (by omega)) q⟩
    | succ m ih =>
      intro r v hj hF hT
      have hS := mq_S_t c0 hS0 hF
      unfold wp_X11_findSoonest_2
      rw [hS.2.2.1, bt_1 (by omega)]
      exact ⟨fun q => absurd q (nI_ge (by omega) (by omega)), fun _ => ⟨sp_cn s (D 2) + 1, m_fS14 hV hw hc hS0 (by omega) (fun u' h1 h2 => ih (r + 1) u' (by omega) h1 h2) _ 0 v (by omega) hF hT⟩⟩
  unfold wp_X11_findSoonest
  refine ⟨2 ^ sp_cn s (D 2) - 1 + 1, st (2 ^ sp_cn s (D 2) - 1) 1 u (by omega) ⟨fun _ _ _ => rfl, fun _ _ => rfl⟩ (fun r k h1 h2 h3 => ?_)⟩
  have : r = 0 := by omega
  rw [this] at h2
  simp at h2
theorem m_soonestOf (hV : sp_V D l) (hw : w < D 3) (hc : sp_cn s (D 2) ≤ 8) (hS : mq_S u D s) (hr : r < 2 ^ sp_cn s (D 2)) (hT : me_T u (sq_A D l s w) (2 ^ sp_cn s (D 2)) 0) (hp : post (nI (sq_se (sq_A D l s w) r)) u) : wp_X11_soonestOf ms_E0 u 233 (nI w) (nI r) post := by
  have hA := sq_A_ok (s := s) (w := w) hV hw hc
  have h8 := pw8 _ hc
  have c3 := hV.1.2.2.2.1
  have tb := (hV.2.2.2.1 w hw).2.1
  have st : ∀ m j, j + m = sp_cn s (D 2) → wp_X11_soonestOf_24 ms_E0 233 (nI w) (nI r) post (m + 1) u (nI (if r = 0 then qB (sq_A D l s w) else sq_mn (sq_e (sq_A D l s w) r) r j)) (nI j) := by
    intro m
    induction m with
    | zero =>
      intro j hj
      have e : j = sp_cn s (D 2) := by omega
      unfold wp_X11_soonestOf_24
      rw [hS.2.2.1, e]
      exact ⟨fun _ => hp, fun q => absurd (nI_le (Nat.le_refl _) (by omega)) q⟩
    | succ m ih =>
      intro j hj
      have ih := ih (j + 1) (by omega)
      rw [mn_s] at ih
      unfold wp_X11_soonestOf_24 wp_X11_soonestOf_57
      rw [hS.2.2.1, nI_1 j]
      refine ⟨fun q => absurd q (nI_ge (by omega) (by omega)), fun _ => bt_1A (by omega) (by omega) (fun b => ?_) (fun b => ?_)⟩
      · have hn0 : ¬ r = 0 := fun z => by rw [z] at b; simp at b
        have hj2 : j < sp_cn s (D 2) := by omega
        have ev := e_v hA (show r < 256 by omega) hj2 b
        have mv := mn_le (f := sq_e (sq_A D l s w) r) (s := r) j
        rw [if_neg hn0, if_pos b] at ih
        rw [if_neg hn0, at_233_25, nI_clamp (show r < 2 ^ 31 by omega), nI_clamp (show j < 2 ^ 31 by omega), at_265 r (by omega), hT r j hj2 b (by omega), q_X11_min, nI_min (by omega) (by omega)]
        exact ⟨vp_in_nI (by omega) (by omega), vp_in_nI (by omega) (by omega), ih⟩
      · rw [if_neg (show ¬ r.testBit j = true by rw [b]; decide)] at ih
        exact ih
  have main := st _ 0 (Nat.zero_add _)
  unfold wp_X11_soonestOf wp_X11_soonestOf_20 wp_X11_walker
  dsimp only
  rw [show (168 : Int32) + 15 * nI w + 1 = nI (168 + 15 * w + 1) from ixW w 1, at_233_8, nI_clamp (show 168 + 15 * w + 1 < 2 ^ 31 by omega), hS.1 _ (show 168 + 15 * w + 1 < 1613 by omega)]
  refine pk_eq r 0 (fun q => ⟨vp_in_nI (by omega) (by omega), sp_cn s (D 2) + 1, ?_⟩) (fun q => ⟨sp_cn s (D 2) + 1, ?_⟩)
  · rw [if_pos q] at main
    exact main
  · rw [if_neg q] at main
    exact main
end SO
