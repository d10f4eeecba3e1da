/-! ===== the reference's division ===== -/
theorem at524 : ∀ k, k < 3 → ms_at ms_E0 524 k = 525 + k := by decide +kernel
section DM
variable {D : Nat → Nat} {l : List ms_Op} {u u0 : ms_St} {s w M d : Nat} {e : Nat → Nat → Nat} {post : Int32 → ms_St → Prop} {pv : ms_St → Prop}
theorem m_timeOf (hV : sp_V D l) (hM : sp_M u 235 D) (hn : 1 ≤ D 3) (hM8 : M ≤ 8) (he : ∀ w S, w < D 3 → S < 2 ^ M → e w S ≤ 1000000) (hd : d < 10000) (h27 : ms_I u 233 27 = nI M) (hH : ∀ w S, w < D 3 → S < 2 ^ M → ms_I u (525 + w) S = nI (e w S)) (hp : ∀ u', fr 528 u u' → (∀ w, w < D 3 → ms_I u' 528 w = nI (sq_sh (D 3) M d w)) → post (nI (sq_T e (D 3) M d)) u') : wp_X11_timeOf ms_E0 u 233 (nI d) post := by
  have c3 := hV.1.2.2.2.1
  have h8 := pw8 _ hM8
  have t76 : ∀ v, fr 528 u v → (∀ w, w < D 3 → ms_I v 528 w = nI (sq_sh (D 3) M d w)) → ∀ m w, w + m = D 3 → wp_X11_timeOf_76 ms_E0 233 (nI d) post (m + 1) v (nI (D 3)) (nI (sq_tm e (sq_sh (D 3) M d) w)) (nI w) := by
    intro v hF hS m
    induction m with
    | zero =>
      intro w hw
      have ew : w = D 3 := by omega
      subst ew
      unfold wp_X11_timeOf_76
      exact ⟨fun _ => hp v hF hS, fun q => absurd (nI_le (Nat.le_refl _) (by omega)) q⟩
    | succ m ih =>
      intro w hw
      have hwn : w < D 3 := by omega
      have ih := ih (w + 1) (by omega)
      have hl := sh_lt (n := D 3) M d w
      have ht := tm_le (e := e) (S := sq_sh (D 3) M d) (b := 1000000) w (fun x hx => he x _ (by omega) (sh_lt _ _ _))
      have hev := he w (sq_sh (D 3) M d w) hwn hl
      have er : ms_I v (525 + w) (sq_sh (D 3) M d w) = nI (e w (sq_sh (D 3) M d w)) := by rw [hF.1 _ _ (by omega)]; exact hH w _ hwn hl
      have vw : vp_in (nI w) 3 := vp_in_nI (by omega) (by omega)
      have vs : vp_in (nI (sq_sh (D 3) M d w)) 256 := vp_in_nI (by omega) (by omega)
      rw [tm_s] at ih
      unfold wp_X11_timeOf_76 wp_X11_timeOf_129
      rw [at_233_33, at_233_30, nI_clamp (show w < 2 ^ 31 by omega), hS w hwn, at524 w (by omega), nI_clamp (show sq_sh (D 3) M d w < 2 ^ 31 by omega), er, nI_1 w]
      refine ⟨fun q => absurd q (nI_ge (by omega) (by omega)), fun _ => ⟨vw, pk_le (sq_sh (D 3) M d w) 0 (fun q => ?_) (fun q => ⟨vw, vw, vs, pk_le (e w (sq_sh (D 3) M d w)) (sq_tm e (sq_sh (D 3) M d) w) (fun q2 => ?_) (fun q2 => ⟨vw, vw, vs, fun v127 e127 => ?_⟩)⟩)⟩⟩
      · rw [if_neg (fun z => z.1 (by omega))] at ih
        exact ih
      · rw [if_neg (fun z => by omega)] at ih
        exact ih
      · rw [if_pos ⟨by omega, q2⟩] at ih
        rw [e127]
        exact ih
  have t43 : ∀ k lf v (C : Nat → Nat), k ≤ M → lf < 10000 → fr 528 u v → (∀ w, w < D 3 → ms_I v 528 w = nI (C w)) → (∀ w, w < D 3 → C w ||| sq_sh (D 3) k lf w = sq_sh (D 3) M d w) → wp_X11_timeOf_43 ms_E0 233 (nI d) post (k + 1) v (nI (D 3)) (nI lf) 0 (sm_pl k) := by
    intro k
    induction k with
    | zero =>
      intro lf v C hk hlf hF h528 hC
      unfold wp_X11_timeOf_43
      refine ⟨fun _ => ⟨D 3 + 1, t76 v hF (fun w hw => ?_) (D 3) 0 (by omega)⟩, fun q => absurd NO_lt q⟩
      have := hC w hw
      rw [show sq_sh (D 3) 0 lf w = 0 from rfl, Nat.or_zero] at this
      rw [h528 w hw, this]
    | succ j ih =>
      intro lf v C hk hlf hF h528 hC
      have hr := Nat.mod_lt lf (show 0 < D 3 by omega)
      have hq := Nat.div_le_self lf (D 3)
      have vr : vp_in (nI (lf % D 3)) 3 := vp_in_nI (by omega) (by omega)
      unfold wp_X11_timeOf_43
      rw [pl_s, pk_rem (by omega) (by omega) (by omega), pk_div (by omega) (by omega) (by omega), at_233_33, nI_clamp (show lf % D 3 < 2 ^ 31 by omega), h528 _ hr, bt_1 (by omega), bt_or, pl_a1]
      refine ⟨fun q => absurd q (nI_pos (by omega)), fun _ => ⟨nI_ne0 (by omega) (by omega), vr, vr, fun w62 e62 => ⟨nI_ne0 (by omega) (by omega), fun v66 e66 => ?_⟩⟩⟩
      subst e66
      refine ih (lf / D 3) w62 (fun w => if w = lf % D 3 then C w ||| 2 ^ j else C w) (by omega) (by omega) (by rw [e62]; exact fr_w hF) (fun w hw => ?_) (fun w hw => ?_)
      · rw [e62, I_sI]
        by_cases c : w = lf % D 3
        · rw [if_pos ⟨rfl, c⟩, if_pos c, c]
        · rw [if_neg (by omega), if_neg c]; exact h528 w hw
      · have := hC w hw
        rw [sh_s] at this
        by_cases c : w = lf % D 3
        · rw [if_pos c.symm] at this
          rw [if_pos c, ← this, Nat.or_assoc, Nat.or_comm (2 ^ j)]
        · rw [if_neg (fun z => c z.symm), Nat.or_zero] at this
          rw [if_neg c]; exact this
  have t15 : ∀ m w v, w + m = D 3 → fr 528 u v → (∀ x, x < w → ms_I v 528 x = 0) → wp_X11_timeOf_15 ms_E0 233 (nI d) post (m + 1) v (nI (D 3)) (nI d) 0 (nI w) := by
    intro m
    induction m with
    | zero =>
      intro w v hw hF h0
      have ew : w = D 3 := by omega
      subst ew
      have i27 : ms_I v 233 27 = nI M := by rw [hF.1 233 27 (by omega)]; exact h27
      unfold wp_X11_timeOf_15
      rw [i27, pl_m1]
      refine ⟨fun _ v41 e41 => ⟨M + 1, ?_⟩, fun q => absurd (nI_le (Nat.le_refl _) (by omega)) q⟩
      rw [e41]
      exact t43 M d v (fun _ => 0) (Nat.le_refl _) hd hF (fun x hx => by rw [h0 x hx]; rfl) (fun x hx => Nat.zero_or _)
    | succ m ih =>
      intro w v hw hF h0
      unfold wp_X11_timeOf_15
      rw [at_233_33, nI_clamp (show w < 2 ^ 31 by omega), nI_1 w]
      refine ⟨fun q => absurd q (nI_ge (by omega) (by omega)), fun _ => ⟨vp_in_nI (by omega) (by omega), ih (w + 1) _ (by omega) (fr_w hF) (fun x hx => ?_)⟩⟩
      rw [I_sI]
      by_cases c : x = w
      · rw [if_pos ⟨rfl, c⟩]
      · rw [if_neg (by omega)]; exact h0 x (by omega)
  unfold wp_X11_timeOf
  rw [at_233_8, show Int32.toNatClampNeg 3 = 3 from rfl, hM 3 (by omega)]
  refine ⟨vi 3 1613, fun v6 e6 => ⟨D 3 + 1, ?_⟩⟩
  rw [e6]
  exact t15 (D 3) 0 u (by omega) ⟨fun _ _ _ => rfl, rfl⟩ (fun x hx => by omega)
def mh_T (u : ms_St) (D : Nat → Nat) (l : List ms_Op) (s w : Nat) : Prop := ∀ x S, x < w → S < 2 ^ sp_cn s (D 2) → ms_I u (525 + x) S = nI (sq_en D l s x S)
theorem mq_S_k {u' : ms_St} (hD : D 0 ≤ 10) (hS : mq_S u D s) (h : ∀ a b, a = 235 ∨ (247 ≤ a ∧ a ≤ 256) ∨ (a = 233 ∧ b = 27) ∨ a = 522 → ms_I u' a b = ms_I u a b) : mq_S u' D s := by
  obtain ⟨a, b, c, d⟩ := hS
  exact ⟨sp_M_eq (fun b => h 235 b (by omega)) a, fun i j hi hj => by rw [h _ _ (by omega)]; exact b i j hi hj, by rw [h 233 27 (by omega)]; exact c, fun k hk => by rw [h 522 k (by omega)]; exact d k hk⟩
theorem m_divide (hV : sp_V D l) (hM : sp_M u 235 D) (hs : s < 2 ^ 31) (hc : sp_cn s (D 2) ≤ 8) (h1 : 1 ≤ sp_cn s (D 2)) (hp : ∀ u', sp_KM u u' → ms_I u' 233 0 = ms_I u 233 0 → mq_S u' D s → mh_T u' D l s (D 3) → ms_I u' 233 31 = nI (sq_bt (sq_TT D l s) (D 3 ^ sp_cn s (D 2))) → ms_I u' 233 32 = sm_pl (sq_bi (sq_TT D l s) (D 3 ^ sp_cn s (D 2))) → pv u') : wp_X11_divide ms_E0 u 233 (nI s) pv := by
  have c3 := hV.1.2.2.2.1
  have c0 := hV.1.1
  have h8 := pw8 _ hc
  have hmany : D 3 ^ sp_cn s (D 2) ≤ 6561 := Nat.le_trans (Nat.pow_le_pow_left c3 _) (Nat.pow_le_pow_right (n := 3) (by decide) hc)
  have hev : ∀ w S, w < D 3 → S < 2 ^ sp_cn s (D 2) → sq_en D l s w S ≤ 1000000 := by
    intro x S hx hS
    have := se_v (sq_A_ok (s := s) (w := x) hV hx hc) (show S < 256 by omega)
    show sq_se (sq_A D l s x) S ≤ 1000000
    omega
  unfold wp_X11_divide
  refine m_findWays hV hM (fun u1 hw1 => m_lays hV (fw_M hw1.1 hM) hw1.2 hs hc (fun u2 h2 hS2 => ?_))
  have hK2 : sp_KM u u2 := mq_KM (fw_KM sp_KM_refl hw1.1) h2
  have z2 : ms_I u2 233 0 = ms_I u 233 0 := by rw [h2.1 233 0 (by omega) (by omega), hw1.1.1 233 0 (by omega)]
  rw [at_233_8, show Int32.toNatClampNeg 3 = 3 from rfl, hS2.1 3 (by omega)]
  refine ⟨vi 3 1613, fun v15 e15 => ⟨D 3 + 1, ?_⟩⟩
  subst e15
  have t113 : ∀ m x v, x + m = D 3 ^ sp_cn s (D 2) → mq_F u2 v → mq_S v D s → mh_T v D l s (D 3) → ms_I v 233 31 = nI (sq_bt (sq_TT D l s) x) → ms_I v 233 32 = sm_pl (sq_bi (sq_TT D l s) x) → wp_X11_divide_113 ms_E0 233 (nI s) pv (m + 1) v (nI (D 3 ^ sp_cn s (D 2))) (nI x) := by
    intro m
    induction m with
    | zero =>
      intro x v hx hF hS hH h31 h32
      have ex : x = D 3 ^ sp_cn s (D 2) := by omega
      subst ex
      unfold wp_X11_divide_113
      exact ⟨fun _ => hp v (mq_KM hK2 hF) (by rw [hF.1 233 0 (by omega) (by omega)]; exact z2) hS hH h31 h32, fun q => absurd (nI_le (Nat.le_refl _) (by omega)) q⟩
    | succ m ih =>
      intro x v hx hF hS hH h31 h32
      have hn : 1 ≤ D 3 := by
        rcases Nat.eq_zero_or_pos (D 3) with z | z
        · rw [z, Nat.zero_pow (by omega)] at hx; omega
        · exact z
      have ih := ih (x + 1)
      have hb := bt_le (T := sq_TT D l s) x
      have hTb : sq_TT D l s x ≤ 1000000 := tm_le _ (fun w hw => hev w _ hw (sh_lt _ _ _))
      have e1 : sq_bt (sq_TT D l s) (x + 1) = if sq_TT D l s x < sq_bt (sq_TT D l s) x then sq_TT D l s x else sq_bt (sq_TT D l s) x := rfl
      have e2 : sq_bi (sq_TT D l s) (x + 1) = if sq_TT D l s x < sq_bt (sq_TT D l s) x then x + 1 else sq_bi (sq_TT D l s) x := rfl
      unfold wp_X11_divide_113 wp_X11_divide_151
      rw [nI_1 x]
      refine ⟨fun q => absurd q (nI_ge (by omega) (by omega)), fun _ => m_timeOf (e := sq_en D l s) hV hS.1 hn hc hev (by omega) hS.2.2.1 (fun w S hw hS2 => hH w S hw hS2) (fun v2 hF2 _ => ?_)⟩
      have hFv : mq_F u2 v2 := ⟨fun a b q1 q2 => by rw [hF2.1 a b (by omega)]; exact hF.1 a b q1 q2, fun a q => by rw [hF2.2]; exact hF.2 a q⟩
      have hSv : mq_S v2 D s := mq_S_k c0 hS (fun a b q => hF2.1 a b (by omega))
      have hHv : mh_T v2 D l s (D 3) := fun y S hy hS2 => by rw [hF2.1 _ _ (by omega)]; exact hH y S hy hS2
      rw [hF2.1 233 31 (by omega), h31, show sq_T (sq_en D l s) (D 3) (sp_cn s (D 2)) x = sq_TT D l s x from rfl]
      refine pk_lt (sq_TT D l s x) (sq_bt (sq_TT D l s) x) (fun q => ?_) (fun q => ?_)
      · rw [e1, e2, if_pos q, if_pos q] at ih
        have k : ∀ a b, ¬ (a = 233 ∧ (b = 31 ∨ b = 32)) → ms_I (ms_sI (ms_sI v2 233 31 (nI (sq_TT D l s x))) 233 32 (nI x)) a b = ms_I v2 a b := fun a b q => by rw [I_sI, if_neg (by omega), I_sI, if_neg (by omega)]
        refine ih _ (by omega) ⟨fun a b q1 q2 => by rw [k a b (by omega)]; exact hFv.1 a b q1 q2, hFv.2⟩ (mq_S_k c0 hSv (fun a b q => k a b (by omega))) (fun y S hy hS2 => by rw [k _ _ (by omega)]; exact hHv y S hy hS2) ?_ ?_
        · rw [I_sI, if_neg (by omega), I_sI, if_pos ⟨rfl, rfl⟩]
        · rw [I_sI, if_pos ⟨rfl, rfl⟩]; rfl
      · rw [e1, e2, if_neg (by omega), if_neg (by omega)] at ih
        exact ih v2 (by omega) hFv hSv hHv (by rw [hF2.1 233 31 (by omega)]; exact h31) (by rw [hF2.1 233 32 (by omega)]; exact h32)
  have t80 : ∀ m k v, k + m = sp_cn s (D 2) → mq_F u2 v → mq_S v D s → mh_T v D l s (D 3) → wp_X11_divide_80 ms_E0 233 (nI s) pv (m + 1) v (nI (D 3)) (nI (D 3 ^ k)) (nI k) := by
    intro m
    induction m with
    | zero =>
      intro k v hk hF hS hH
      have ek : k = sp_cn s (D 2) := by omega
      subst ek
      have kk : ∀ a b, ¬ (a = 233 ∧ (b = 31 ∨ b = 32)) → ms_I (ms_sI (ms_sI v 233 31 1000000) 233 32 (-1)) a b = ms_I v a b := fun a b q => by rw [I_sI, if_neg (by omega), I_sI, if_neg (by omega)]
      unfold wp_X11_divide_80
      rw [hS.2.2.1]
      refine ⟨fun _ => ⟨D 3 ^ sp_cn s (D 2) + 1, t113 _ 0 _ (by omega) ⟨fun a b q1 q2 => by rw [kk a b (by omega)]; exact hF.1 a b q1 q2, hF.2⟩ (mq_S_k c0 hS (fun a b q => kk a b (by omega))) (fun y S hy hS2 => by rw [kk _ _ (by omega)]; exact hH y S hy hS2) ?_ ?_⟩, fun q => absurd (nI_le (Nat.le_refl _) (by omega)) q⟩
      · rw [I_sI, if_neg (by omega), I_sI, if_pos ⟨rfl, rfl⟩]; rfl
      · rw [I_sI, if_pos ⟨rfl, rfl⟩]; rfl
    | succ m ih =>
      intro k v hk hF hS hH
      unfold wp_X11_divide_80
      rw [hS.2.2.1, pk_mul, nI_1 k]
      refine ⟨fun q => absurd q (nI_ge (by omega) (by omega)), fun _ v92 e92 => ?_⟩
      rw [e92, ← Nat.pow_succ]
      exact ih (k + 1) v (by omega) hF hS hH
  have t21 : ∀ m w v, w + m = D 3 → mq_F u2 v → mq_S v D s → mh_T v D l s w → wp_X11_divide_21 ms_E0 233 (nI s) pv (m + 1) v (nI (D 3)) 1 (nI w) := by
    intro m
    induction m with
    | zero =>
      intro w v hw hF hS hH
      have ew : w = D 3 := by omega
      subst ew
      unfold wp_X11_divide_21
      exact ⟨fun _ => ⟨sp_cn s (D 2) + 1, t80 _ 0 v (by omega) hF hS hH⟩, fun q => absurd (nI_le (Nat.le_refl _) (by omega)) q⟩
    | succ m ih =>
      intro w v hw hF hS hH
      have hwn : w < D 3 := by omega
      have ih := ih (w + 1)
      have vw : vp_in (nI w) 3 := vp_in_nI (by omega) (by omega)
      unfold wp_X11_divide_21
      refine ⟨fun q => absurd q (nI_ge (by omega) (by omega)), fun _ => m_findSoonest hV hwn hc hS (fun v3 hF3 hT3 => ⟨2 ^ sp_cn s (D 2) + 1, ?_⟩)⟩
      have hS3 := mq_S_t c0 hS hF3
      have inner : ∀ n x v4, x + n = 2 ^ sp_cn s (D 2) → fr (525 + w) v3 v4 → (∀ S, S < x → ms_I v4 (525 + w) S = nI (sq_en D l s w S)) → wp_X11_divide_36 ms_E0 233 (nI s) pv (wp_X11_divide_21 ms_E0 233 (nI s) pv (m + 1)) (n + 1) v4 (nI (D 3)) 1 (nI w) (nI x) := by
        intro n
        induction n with
        | zero =>
          intro x v4 hx hF4 hS4
          have ex : x = 2 ^ sp_cn s (D 2) := by omega
          have hSv : mq_S v4 D s := mq_S_k c0 hS3 (fun a b q => hF4.1 a b (by omega))
          unfold wp_X11_divide_36
          rw [hSv.2.2.1, bt_1 (by omega), ex, nI_1 w]
          rw [ex] at hS4
          refine ⟨fun _ => ih v4 (by omega) ⟨fun a b q1 q2 => ?_, fun a q => ?_⟩ hSv (fun y S hy hS5 => ?_), fun q => absurd (nI_le (Nat.le_refl _) (by omega)) q⟩
          · rw [hF4.1 a b (by omega), hF3.1 a b (by omega)]; exact hF.1 a b q1 q2
          · rw [hF4.2, hF3.2 a q]; exact hF.2 a q
          · by_cases c : y = w
            · rw [c]; exact hS4 S hS5
            · rw [hF4.1 _ _ (by omega), hF3.1 _ _ (by omega)]; exact hH y S (by omega) hS5
        | succ n ih2 =>
          intro x v4 hx hF4 hS4
          have hSv : mq_S v4 D s := mq_S_k c0 hS3 (fun a b q => hF4.1 a b (by omega))
          have hTv : me_T v4 (sq_A D l s w) (2 ^ sp_cn s (D 2)) 0 := fun a b h1 h2 h3 => by rw [hF4.1 _ _ (by omega)]; exact hT3 a b h1 h2 h3
          unfold wp_X11_divide_36
          rw [hSv.2.2.1, bt_1 (by omega), at_233_30, nI_clamp (show w < 2 ^ 31 by omega), nI_clamp (show x < 2 ^ 31 by omega), at524 w (by omega), nI_1 x]
          refine ⟨fun q => absurd q (nI_ge (by omega) (by omega)), fun _ => ⟨vw, m_soonestOf hV hwn hc hSv (by omega) hTv ⟨vp_in_nI (by omega) (by omega), ih2 (x + 1) _ (by omega) (fr_w hF4) (fun S hS5 => ?_)⟩⟩⟩
          rw [I_sI]
          by_cases c : S = x
          · rw [if_pos ⟨rfl, c⟩, c]; rfl
          · rw [if_neg (by omega)]; exact hS4 S (by omega)
      exact inner _ 0 v3 (by omega) ⟨fun _ _ _ => rfl, rfl⟩ (fun S hS => by omega)
  exact t21 (D 3) 0 u2 (by omega) ⟨fun _ _ _ _ => rfl, fun _ _ => rfl⟩ hS2 (fun y S hy _ => by omega)
end DM
