/-! ===== the reference's order ===== -/
def mr_F (u0 u : ms_St) : Prop := (∀ a b, a ≠ 523 → ¬ (a = 233 ∧ b = 29) → ms_I u a b = ms_I u0 a b) ∧ ∀ a, a ≠ 257 → ms_J u a = ms_J u0 a
theorem c_leL {A : ms_Q} {k way L : Nat} : sq_c A k way L ≤ L := by
  unfold sq_c
  split <;> omega
theorem l_le2 {A : ms_Q} {g : Nat} (hM : qM A ≤ 8) : ∀ n s k, s < n → s < 256 → sq_l A g s k ≤ g + 1
  | 0, s, _, h, _ => by omega
  | n + 1, s, k, h, hs => by
    rw [sq_l_eq hM hs]
    by_cases q : s = 0
    · rw [if_pos q]; exact Nat.le_refl _
    · rw [if_neg q]
      have : ∀ j, j ≤ qM A → sq_mx (fun j => sq_c A j (qW A k j) (sq_l A g (s - 2 ^ j) j)) s j ≤ g + 1 := by
        intro j
        induction j with
        | zero => intro _; simp [sq_mx]
        | succ j ih =>
          intro hj
          have i1 := ih (by omega)
          rw [mx_s]
          by_cases b : s.testBit j = true
          · obtain ⟨_, b2, b3⟩ := bx s hs j (by omega) b
            have i2 := l_le2 (g := g) hM n (s - 2 ^ j) j (by omega) (by omega)
            have i3 := c_leL (A := A) (k := j) (way := qW A k j) (L := sq_l A g (s - 2 ^ j) j)
            rw [if_pos b]
            omega
          · rw [if_neg b]; exact i1
      exact this _ (Nat.le_refl _)
theorem cn_all : ∀ m, m < 9 → ∀ s, s < 2 ^ m → sp_cn s m = m → s = 2 ^ m - 1 := by decide +kernel
section SP
variable {D : Nat → Nat} {l : List ms_Op} {u0 : ms_St} {s w g : Nat}
theorem mq_S_r {u u' : ms_St} (hD : D 0 ≤ 10) (hS : mq_S u D s) (hF : mr_F u u') : mq_S u' D s := by
  obtain ⟨a, b, c, d⟩ := hS
  exact ⟨sp_M_eq (fun b => hF.1 235 b (by omega) (by omega)) a, fun i j hi hj => by rw [hF.1 _ _ (by omega) (by omega)]; exact b i j hi hj, by rw [hF.1 233 27 (by omega) (by omega)]; exact c, fun k hk => by rw [hF.1 522 k (by omega) (by omega)]; exact d k hk⟩
theorem m_try (hV : sp_V D l) (hw : w < D 3) (hc : sp_cn s (D 2) ≤ 8) (hg : sq_se (sq_A D l s w) (2 ^ sp_cn s (D 2) - 1) = g) (hg2 : g < 1000000) (hS0 : mq_S u0 D s) : ∀ n d i u used last t (pv : ms_St → Prop), n < d → i + n = sp_cn s (D 2) → mr_F u0 u → used < 2 ^ sp_cn s (D 2) → sp_cn used (sp_cn s (D 2)) = i → last ≤ sp_cn s (D 2) → (i = 0 → last = 0 ∧ used = 0 ∧ t = qB (sq_A D l s w)) → (i ≠ 0 → 1 ≤ last ∧ ms_I u 523 (i - 1) = nI (last - 1) ∧ used.testBit (last - 1) = true ∧ sq_e (sq_A D l s w) used (last - 1) ≤ t) → 0 < i + n → t ≤ g → ms_I u 233 29 = 0 →
    (∀ u', mr_F u0 u' → (∀ d, d < i → ms_I u' 523 d = ms_I u 523 d) → ((ms_I u' 233 29 = 1 ∧ (n ≠ 0 → ∃ j, j < sp_cn s (D 2) ∧ sq_P (sq_A D l s w) g (2 ^ sp_cn s (D 2) - 1 - used) last t j) ∧ ∀ d, d < n → ms_I u' 523 (i + d) = nI (sq_g (sq_A D l s w) g n (2 ^ sp_cn s (D 2) - 1 - used) last t d)) ∨ (ms_I u' 233 29 = 0 ∧ n ≠ 0 ∧ ¬ ∃ j, j < sp_cn s (D 2) ∧ sq_P (sq_A D l s w) g (2 ^ sp_cn s (D 2) - 1 - used) last t j)) → pv u') → WP_X11_tryOrders ms_E0 d u 233 (nI w) (nI i) (nI used) (nI t) (nI g) pv := by
  have hA := sq_A_ok (s := s) (w := w) hV hw hc
  have h8 := pw8 _ hc
  have c0 := hV.1.1
  have eM : qM (sq_A D l s w) = sp_cn s (D 2) := rfl
  intro n
  induction n with
  | zero =>
    intro d i u used last t pv hd hi hF hu hcn hl h0 h1 hpos ht h29 hp
    obtain ⟨d', rfl⟩ : ∃ d', d = d' + 1 := ⟨d - 1, by omega⟩
    have hS := mq_S_r c0 hS0 hF
    obtain ⟨l1, l2, l3, l4⟩ := h1 (by omega)
    have eu := cn_all _ (show sp_cn s (D 2) < 9 by omega) used hu (by omega)
    have hge : g ≤ t := by
      unfold sq_se at hg
      have hn0 : ¬ 2 ^ sp_cn s (D 2) - 1 = 0 := fun z => by rw [eu, z] at l3; simp at l3
      rw [if_neg hn0] at hg
      have := mn_mem (f := sq_e (sq_A D l s w) (2 ^ sp_cn s (D 2) - 1)) (s := 2 ^ sp_cn s (D 2) - 1) (sp_cn s (D 2)) (last - 1) (by omega) (by rw [← eu]; exact l3)
      rw [eM] at hg
      rw [eu] at l4
      omega
    show wp_X11_tryOrders ms_E0 (WP_X11_tryOrders ms_E0 d') u 233 (nI w) (nI i) (nI used) (nI t) (nI g) pv
    unfold wp_X11_tryOrders wp_X11_tryOrders_21
    rw [hS.2.2.1]
    refine ⟨fun _ => pk_eq t g (fun q => ⟨Or.inr rfl, hp _ ⟨fun a b q1 q2 => ?_, hF.2⟩ (fun d hd => ?_) (Or.inl ⟨?_, fun z => absurd rfl z, fun d hd => by omega⟩)⟩) (fun q => absurd (show t = g by omega) q), fun q => absurd (by rw [show i = sp_cn s (D 2) by omega]) q⟩
    · rw [I_sI, if_neg q2]; exact hF.1 a b q1 q2
    · rw [I_sI, if_neg (by omega)]
    · rw [I_sI, if_pos ⟨rfl, rfl⟩]
  | succ n IH =>
    intro d i u used last t pv hd hi hF hu hcn hl h0 h1 hpos ht h29 hp
    obtain ⟨d', rfl⟩ : ∃ d', d = d' + 1 := ⟨d - 1, by omega⟩
    have hSu := mq_S_r c0 hS0 hF
    have loop : ∀ m k v, k + m = sp_cn s (D 2) → mr_F u0 v → (∀ d, d < i → ms_I v 523 d = ms_I u 523 d) → ms_I v 233 29 = 0 → (∀ j, j < k → ¬ sq_P (sq_A D l s w) g (2 ^ sp_cn s (D 2) - 1 - used) last t j) → wp_X11_tryOrders_28 ms_E0 (WP_X11_tryOrders ms_E0 d') 233 (nI w) (nI i) (nI used) (nI t) (nI g) pv (m + 1) v (nI k) := by
      intro m
      induction m with
      | zero =>
        intro k v hk hFv hdv h29v hno
        have hS := mq_S_r c0 hS0 hFv
        unfold wp_X11_tryOrders_28 wp_X11_tryOrders_126
        rw [hS.2.2.1]
        refine ⟨fun _ => hp v hFv hdv (Or.inr ⟨h29v, by omega, fun ⟨j, hj, hP⟩ => hno j (by omega) hP⟩), fun q => absurd (nI_le (by omega) (by omega)) q⟩
      | succ m ih =>
        intro k v hk hFv hdv h29v hno
        have hS := mq_S_r c0 hS0 hFv
        have hkM : k < sp_cn s (D 2) := by omega
        have step : used.testBit k = false → ∀ z : Int32, z = sm_pl last → wp_X11_tryOrders_75 ms_E0 (WP_X11_tryOrders ms_E0 d') 233 (nI w) (nI i) (nI used) (nI t) (nI g) pv (wp_X11_tryOrders_28 ms_E0 (WP_X11_tryOrders ms_E0 d') 233 (nI w) (nI i) (nI used) (nI t) (nI g) pv (m + 1)) v (nI k) z (nI w) 233 := by
          intro b z hz
          subst hz
          have rb := cb4 _ (show sp_cn s (D 2) < 9 by omega) used hu k hkM b
          have ub := cb5 _ (show sp_cn s (D 2) < 9 by omega) used hu k hkM b
          have ut := cb6 _ (show sp_cn s (D 2) < 9 by omega) used hu k hkM b
          have uo := cb7 _ (show sp_cn s (D 2) < 9 by omega) used hu k hkM b
          have cn1 := cn_bit _ (show sp_cn s (D 2) < 9 by omega) (used + 2 ^ k) ub k hkM ut
          rw [Nat.add_sub_cancel] at cn1
          have er : 2 ^ sp_cn s (D 2) - 1 - (used + 2 ^ k) = 2 ^ sp_cn s (D 2) - 1 - used - 2 ^ k := by omega
          have ll := l_le2 (g := g) hA.1 256 (2 ^ sp_cn s (D 2) - 1 - used - 2 ^ k) k (by omega) (by omega)
          have gv := gn_v (way := sq_w (sq_A D l s w) last k) (t := t) hA hkM
          unfold wp_X11_tryOrders_75 wp_X11_tryOrders_120
          refine m_goesOn (l := l) hV hw hc hS hkM hl (by omega) (fun u1 hI hJ => ?_)
          have hF1 : mr_F u0 u1 := ⟨fun a b q1 q2 => by rw [hI]; exact hFv.1 a b q1 q2, fun a q => by rw [hJ a q]; exact hFv.2 a q⟩
          rw [nI_1 k, nI_1 i, bt_1 (by omega), bt_or, uo, at_233_28, nI_clamp (show i < 2 ^ 31 by omega)]
          refine pk_le (sq_gn (sq_A D l s w) k (sq_w (sq_A D l s w) last k) t) g (fun q => ⟨vp_in_nI (by omega) (by omega), ?_⟩) (fun q => ?_)
          · refine IH d' (i + 1) (ms_sI u1 523 i (nI k)) (used + 2 ^ k) (k + 1) _ _ (by omega) (by omega) ⟨fun a b q1 q2 => ?_, hF1.2⟩ ub (by omega) (by omega) (fun z => by omega) (fun _ => ⟨by omega, ?_, ut, ?_⟩) (by omega) q ?_ (fun u2 hF2 hd2 hout => ?_)
            · rw [I_sI, if_neg (by omega)]; exact hF1.1 a b q1 q2
            · rw [Nat.add_sub_cancel, Nat.add_sub_cancel, I_sI, if_pos ⟨rfl, rfl⟩]
            · rw [Nat.add_sub_cancel, sq_e_eq hA.1 (by omega) (by omega) ut, Nat.add_sub_cancel]
              by_cases z : i = 0
              · obtain ⟨z1, z2, z3⟩ := h0 z
                rw [if_pos z2, z1, z3]
                exact Nat.le_refl _
              · obtain ⟨l1, l2, l3, l4⟩ := h1 z
                have hn0 : ¬ used = 0 := fun z => by rw [z] at l3; simp at l3
                rw [if_neg hn0]
                refine Nat.le_trans (mn_mem _ (last - 1) (show last - 1 < sp_cn s (D 2) by omega) l3) ?_
                have ew : sq_w (sq_A D l s w) last k = qW (sq_A D l s w) (last - 1) k := by unfold sq_w; rw [if_neg (by omega)]
                rw [ew]
                exact gn_mono hA hkM l4
            · rw [I_sI, if_neg (by omega), hI]; exact h29v
            · have hd3 : ∀ d, d < i → ms_I u2 523 d = ms_I u 523 d := fun d hd => by rw [hd2 d (by omega), I_sI, if_neg (by omega), hI]; exact hdv d hd
              rw [er] at hout
              rcases hout with ⟨f1, f2, f3⟩ | ⟨f1, f2, f3⟩
              · have hPk : sq_P (sq_A D l s w) g (2 ^ sp_cn s (D 2) - 1 - used) last t k := by
                  refine ⟨rb, ?_⟩
                  by_cases z : n = 0
                  · have := cn_all _ (show sp_cn s (D 2) < 9 by omega) (used + 2 ^ k) ub (by omega)
                    rw [sq_l_eq hA.1 (by omega), if_pos (by omega)]
                    omega
                  · exact (LL hA hg2 (by omega) (fun z2 => by
                      have : used + 2 ^ k = 2 ^ sp_cn s (D 2) - 1 := by omega
                      rw [this, cn_full _ (show sp_cn s (D 2) < 9 by omega)] at cn1
                      omega)).mpr (f2 z)
                have ef : sq_f (sq_A D l s w) g (2 ^ sp_cn s (D 2) - 1 - used) last t (qM (sq_A D l s w)) 0 = k := f_eq hPk _ 0 (by omega) (by rw [eM]; omega) (fun j _ hj => hno j hj)
                have fin : pv u2 := hp u2 hF2 hd3 (Or.inl ⟨f1, fun _ => ⟨k, hkM, hPk⟩, fun d hd => by
                  rw [g_s, ef]
                  cases d with
                  | zero => rw [if_pos rfl, Nat.add_zero, hd2 i (by omega), I_sI, if_pos ⟨rfl, rfl⟩]
                  | succ d =>
                    rw [if_neg (by omega), Nat.add_sub_cancel, show i + (d + 1) = i + 1 + d by omega]
                    exact f3 d (by omega)⟩)
                unfold wp_X11_tryOrders_28 wp_X11_tryOrders_126
                exact ⟨fun _ => fin, fun _ => ⟨fun q => absurd (f1.symm.trans q) (by decide), fun _ => fin⟩⟩
              · refine ih (k + 1) u2 (by omega) hF2 hd3 f1 (fun j hj hP => ?_)
                by_cases z : j = k
                · subst z
                  refine f3 ((LL hA hg2 (by omega) (fun z2 => ?_)).mp hP.2)
                  have : used + 2 ^ j = 2 ^ sp_cn s (D 2) - 1 := by omega
                  rw [this, cn_full _ (show sp_cn s (D 2) < 9 by omega)] at cn1
                  omega
                · exact hno j (by omega) hP
          · refine ih (k + 1) u1 (by omega) hF1 (fun d hd => by rw [hI]; exact hdv d hd) (by rw [hI]; exact h29v) (fun j hj hP => ?_)
            by_cases z : j = k
            · subst z
              have := hP.2
              omega
            · exact hno j (by omega) hP
        unfold wp_X11_tryOrders_28 wp_X11_tryOrders_126
        rw [hS.2.2.1, h29v]
        refine ⟨fun q => absurd q (nI_ge (by omega) (by omega)), fun _ => ⟨fun _ => bt_1A (by omega) (by omega) (fun b => ?_) (fun b => ?_), fun q => absurd rfl q⟩⟩
        · unfold wp_X11_tryOrders_120
          rw [nI_1 k]
          have rb := cb1 _ (show sp_cn s (D 2) < 9 by omega) used hu k hkM b
          refine ih (k + 1) v (by omega) hFv hdv h29v (fun j hj hP => ?_)
          by_cases z : j = k
          · subst z
            have := hP.1
            rw [rb] at this
            exact absurd this (by decide)
          · exact hno j (by omega) hP
        · refine pk_eq i 0 (fun q => ?_) (fun q => ⟨?_, ?_⟩)
          · obtain ⟨z1, z2, z3⟩ := h0 q
            exact step b _ (by rw [z1]; rfl)
          · rw [show (1 : Int32) = nI 1 from rfl, pk_sub (by omega)]
            exact vp_in_nI (by omega) (by omega)
          · obtain ⟨l1, l2, l3, l4⟩ := h1 q
            rw [show (1 : Int32) = nI 1 from rfl, pk_sub (show 1 ≤ i by omega), nI_clamp (by omega), at_233_28, hdv (i - 1) (by omega), l2]
            refine step b _ ?_
            obtain ⟨z, rfl⟩ : ∃ z, last = z + 1 := ⟨last - 1, by omega⟩
            rw [Nat.add_sub_cancel, pl_s]
    show wp_X11_tryOrders ms_E0 (WP_X11_tryOrders ms_E0 d') u 233 (nI w) (nI i) (nI used) (nI t) (nI g) pv
    unfold wp_X11_tryOrders
    rw [hSu.2.2.1]
    refine ⟨fun q => ?_, fun _ => ⟨sp_cn s (D 2) + 1, loop _ 0 u (by omega) hF (fun _ _ => rfl) h29 (fun j hj => by omega)⟩⟩
    have : (nI i).toInt = (nI (sp_cn s (D 2))).toInt := by rw [q]
    rw [nI_toInt (by omega), nI_toInt (by omega)] at this
    omega
end SP
