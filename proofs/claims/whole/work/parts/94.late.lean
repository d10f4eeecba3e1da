/-! ===== the class's order ===== -/
theorem pl_of (p : Nat) : sm_pl p = Int32.ofInt ((p : Int) - 1) := by
  cases p with
  | zero => rfl
  | succ p => rw [pl_s, ofI_nat (by omega)]; congr 1; omega
theorem pl_toInt {p : Nat} (h : p < 2000000000) : (sm_pl p).toInt = (p : Int) - 1 := by rw [pl_of, I_toInt (by omega) (by omega)]
theorem nI_ofI (n : Nat) : nI n = Int32.ofInt (n : Int) := by rw [ofI_nat (by omega)]; congr 1
theorem pl_sub {p w : Nat} (hp : p < 1000000000) (hw : w < 1000000000) : (sm_pl p - nI w).toInt = (p : Int) - 1 - w := by rw [pl_of, nI_ofI, ← Int32.ofInt_sub, I_toInt (by omega) (by omega)]
theorem ite_toInt {a b x y : Int32} : (if a < b then x else y).toInt = if a.toInt < b.toInt then x.toInt else y.toInt := by
  by_cases h : a < b
  · rw [if_pos h, if_pos (Int32.lt_iff_toInt_lt.mp h)]
  · rw [if_neg h, if_neg (fun q => h (Int32.lt_iff_toInt_lt.mpr q))]
section SN
variable {A : ms_Q} {u u0 : ms_St} {s k j way t L X g : Nat} {post : Int32 → ms_St → Prop} {pv : ms_St → Prop}
theorem c_latestCall (hA : q_ok A) (hu : cq_A u A) (hk : k < qM A) (hL : L ≤ 1000000) (hp : post (sm_pl (if qO A k < min (qC A k) (L - qV A k) then min (qC A k) (L - qV A k) else 0)) u) : wp_X2_latestCall ms_E0 u 60 (nI k) (sm_pl L) post := by
  have c := hA.2.2.1 k hk
  have hM := hA.1
  obtain ⟨r1, r2, r3, r4, r5⟩ := hu.2.2 k hk
  have vk : vp_in (nI k) 8 := vp_in_nI (by omega) (by omega)
  unfold wp_X2_latestCall wp_X2_latestCall_35
  rw [at_60_5, at_60_4, at_60_6, nI_clamp (by omega), r1, r2, r3]
  refine ⟨vk, vk, fun v19 e19 => ⟨vk, ?_⟩⟩
  have ec : (nI (qC A k) - 1 : Int32) = nI (qC A k - 1) := pk_sub (b := 1) (by omega)
  have h19 : v19.toInt = if (L : Int) - 1 - qV A k < (qC A k : Int) - 1 then (L : Int) - 1 - qV A k else (qC A k : Int) - 1 := by
    rw [e19, ec, ite_toInt, pl_sub (by omega) (by omega), nI_toInt (by omega)]
    split <;> split <;> omega
  rw [Int32.lt_iff_toInt_lt, h19, nI_toInt (by omega)]
  refine ⟨fun q => ?_, fun q => ?_⟩
  · rw [if_neg (by split at q <;> omega)] at hp
    exact hp
  · have h0 : qO A k < min (qC A k) (L - qV A k) := by split at q <;> omega
    rw [if_pos h0] at hp
    have e : v19 = sm_pl (min (qC A k) (L - qV A k)) := by
      rw [← Int32.toInt_inj, h19, pl_toInt (by omega)]
      split <;> omega
    rw [e]
    exact hp
def fl_T (u : ms_St) (A : ms_Q) (g s j : Nat) : Prop := ∀ r k, k < qM A → r.testBit k = false → (r < s ∨ (r = s ∧ k < j)) → ms_I u 69 (r * 8 + k) = sm_pl (sq_l A g r k)
theorem c_latestLeave (hA : q_ok A) (hg : g < 1000000) (hu : cq_A u A) (hs : s < 256) (h0 : s ≠ 0) (hk : k < qM A) (hT : fl_T u A g s 0) (hp : post (sm_pl (sq_l A g s k)) u) : wp_X2_latestLeave ms_E0 u 60 (nI s) (nI k) post := by
  have hM := hA.1
  rw [sq_l_eq hM hs, if_neg h0] at hp
  have st : ∀ m j, j + m = qM A → wp_X2_latestLeave_5 ms_E0 60 (nI s) (nI k) post (m + 1) u (sm_pl (sq_mx (fun j => sq_c A j (qW A k j) (sq_l A g (s - 2 ^ j) j)) s j)) (nI j) := by
    intro m
    induction m with
    | zero =>
      intro j hj
      have e : j = qM A := by omega
      subst e
      unfold wp_X2_latestLeave_5
      rw [hu.1]
      exact ⟨fun _ => hp, fun q => absurd (nI_le (Nat.le_refl _) (by omega)) q⟩
    | succ m ih =>
      intro j hj
      have ih := ih (j + 1) (by omega)
      rw [mx_s] at ih
      have c := hA.2.2.1 j (by omega)
      have hw := hA.2.2.2 k j hk (by omega)
      unfold wp_X2_latestLeave_5 wp_X2_latestLeave_78
      rw [hu.1, nI_1]
      refine ⟨fun q => absurd q (nI_ge (by omega) (by omega)), fun _ => ?_⟩
      rw [show (8 : Int32) = nI 8 from rfl, pk_mul, nI_add, at_60_7, at_60_11, nI_clamp (show k * 8 + j < 2 ^ 31 by omega), (hu.2.2 j (by omega)).2.2.2.2 k hk]
      refine ⟨vp_in_nI (by omega) (by omega), fun v26 e26 => q_cont (by omega) (by omega) (fun b => ?_) (fun b => ?_)⟩
      · rw [if_pos b] at ih
        subst e26
        obtain ⟨b1, b2, b3⟩ := bx s hs j (by omega) b
        have hl := l_le (k := j) hA hg (show s - 2 ^ j < 256 by omega)
        refine td_NO (fun q => ?_) (fun q => ?_)
        · have e : sq_c A j (qW A k j) (sq_l A g (s - 2 ^ j) j) = 0 := by
            unfold sq_c
            split <;> omega
          rw [e, Nat.max_zero] at ih
          exact ih
        · have bn : (s - 2 ^ j).testBit j = false := by rw [bj s hs j (by omega) b j (by omega)]; simp
          rw [bt_1 (by omega), bt_xor, b1, pk_mul, nI_add, nI_clamp (show (s - 2 ^ j) * 8 + j < 2 ^ 31 by omega), hT (s - 2 ^ j) j (by omega) bn (by omega)]
          refine ⟨vp_in_nI (by omega) (by omega), c_latestCall hA hu (by omega) (by omega) (fun v77 e77 => ?_)⟩
          have hX : sq_mx (fun j => sq_c A j (qW A k j) (sq_l A g (s - 2 ^ j) j)) s j ≤ 1440 := mx_le _ (fun i hi => c_le hA (by omega))
          have e : v77 = sm_pl (max (sq_mx (fun j => sq_c A j (qW A k j) (sq_l A g (s - 2 ^ j) j)) s j) (sq_c A j (qW A k j) (sq_l A g (s - 2 ^ j) j))) := by
            have hc := c_le (way := qW A k j) (L := sq_l A g (s - 2 ^ j) j) hA (show j < qM A by omega)
            rw [e77, td_near q, ← Int32.toInt_inj, ite_toInt, pl_toInt (by omega), pl_sub (by split <;> omega) (by omega), pl_toInt (by omega)]
            unfold sq_c at hc ⊢
            by_cases q3 : qO A j < min (qC A j) (sq_l A g (s - 2 ^ j) j - qV A j)
            · rw [if_pos q3] at hc ⊢
              split <;> omega
            · rw [if_neg q3] at hc ⊢
              split <;> omega
          rw [e]
          exact ih
      · rw [if_neg (by rw [b]; decide)] at ih
        exact ih
  unfold wp_X2_latestLeave
  exact ⟨qM A + 1, st (qM A) 0 (by omega)⟩
theorem c_fL14 {k2 : ms_St → Int32 → Prop} (hA : q_ok A) (hg : g < 1000000) (hu : cq_A u0 A) (hs : s < 2 ^ qM A) (hp : ∀ u', fr 69 u0 u' → fl_T u' A g (s + 1) 0 → k2 u' (nI (s + 1))) : ∀ m j u, j + m = qM A → fr 69 u0 u → fl_T u A g s j → wp_X2_findLate_14 ms_E0 60 (nI g) pv k2 (m + 1) u (nI s) (nI j) := by
  have hM := hA.1
  have h8 := pw8 _ hM
  intro m
  induction m with
  | zero =>
    intro j u hj hF hT
    have e : j = qM A := by omega
    subst e
    unfold wp_X2_findLate_14
    rw [(fr_A hF (by omega) hu).1, nI_1]
    exact ⟨fun _ => hp u hF (fun r k h1 h2 h3 => hT r k h1 h2 (by omega)), fun q => absurd (nI_le (Nat.le_refl _) (by omega)) q⟩
  | succ m ih =>
    intro j u hj hF hT
    have hu' := fr_A hF (by omega) hu
    unfold wp_X2_findLate_14 wp_X2_findLate_54 wp_X2_findLate_55
    rw [hu'.1, nI_1 j]
    have wr : s.testBit j = false → ∀ z : Int32, z = sm_pl (sq_l A g s j) → wp_X2_findLate_14 ms_E0 60 (nI g) pv k2 (m + 1) (ms_sI u 69 (s * 8 + j) z) (nI s) (nI (j + 1)) := by
      intro b z hz
      refine ih (j + 1) _ (by omega) (fr_w hF) (fun r k h1 h2 h3 => ?_)
      rw [I_sI]
      by_cases q : r = s ∧ k = j
      · rw [if_pos ⟨rfl, by rw [q.1, q.2]⟩, q.1, q.2, hz]
      · rw [if_neg (by omega)]
        exact hT r k h1 h2 (by omega)
    refine ⟨fun q => absurd q (nI_ge (by omega) (by omega)), fun _ => q_cont (by omega) (by omega) (fun b => ?_) (fun b => ?_)⟩
    · refine ih (j + 1) u (by omega) hF (fun r k h1 h2 h3 => hT r k h1 h2 ?_)
      by_cases q : r = s ∧ k = j
      · rw [q.1, q.2, b] at h2
        exact absurd h2 (by decide)
      · omega
    · rw [show (8 : Int32) = nI 8 from rfl, pk_mul, nI_add, at_60_11, nI_clamp (show s * 8 + j < 2 ^ 31 by omega)]
      have v1 : vp_in (nI (s * 8 + j)) 2048 := vp_in_nI (by omega) (by omega)
      refine pk_eq s 0 (fun q => ⟨v1, wr b _ ?_⟩) (fun q => c_latestLeave hA hg hu' (by omega) q (by omega) (fun r k h1 h2 h3 => hT r k h1 h2 (by omega)) ⟨v1, wr b _ rfl⟩)
      rw [sq_l_eq hM (by omega), if_pos q, pl_s]
theorem c_findLate (hA : q_ok A) (hg : g < 1000000) (hu : cq_A u A) (hp : ∀ u', fr 69 u u' → fl_T u' A g (2 ^ qM A) 0 → pv u') : wp_X2_findLate ms_E0 u 60 (nI g) pv := by
  have hM := hA.1
  have h8 := pw8 _ hM
  have st : ∀ m s v, s + m = 2 ^ qM A → fr 69 u v → fl_T v A g s 0 → wp_X2_findLate_2 ms_E0 60 (nI g) pv (m + 1) v (nI s) := by
    intro m
    induction m with
    | zero =>
      intro s v hj hF hT
      have e : s = 2 ^ qM A := by omega
      unfold wp_X2_findLate_2
      rw [(fr_A hF (by omega) hu).1, bt_1 (by omega), e]
      rw [e] at hT
      exact ⟨fun _ => hp v hF hT, fun q => absurd (nI_le (Nat.le_refl _) (by omega)) q⟩
    | succ m ih =>
      intro s v hj hF hT
      unfold wp_X2_findLate_2
      rw [(fr_A hF (by omega) hu).1, bt_1 (by omega)]
      exact ⟨fun q => absurd q (nI_ge (by omega) (by omega)), fun _ => ⟨qM A + 1, c_fL14 hA hg hu (by omega) (fun u' h1 h2 => ih (s + 1) u' (by omega) h1 h2) (qM A) 0 v (by omega) hF hT⟩⟩
  unfold wp_X2_findLate
  exact ⟨2 ^ qM A + 1, st (2 ^ qM A) 0 u (by omega) ⟨fun _ _ _ => rfl, rfl⟩ (fun r k h1 h2 h3 => by omega)⟩
theorem c_wayTo {last : Nat} (hA : q_ok A) (hu : cq_A u A) (hl : last ≤ qM A) (hk : k < qM A) (hp : post (sp_td (sq_w A last k)) u) : wp_X2_wayTo ms_E0 u 60 (sm_pl last) (nI k) post := by
  have hM := hA.1
  obtain ⟨r1, r2, r3, r4, r5⟩ := hu.2.2 k hk
  unfold sq_w at hp
  unfold wp_X2_wayTo wp_X2_wayTo_25
  refine pl_NO (by omega) (fun q => ?_) (fun i q => ?_)
  · rw [if_pos q] at hp
    rw [at_60_8, nI_clamp (by omega), r4]
    exact ⟨vp_in_nI (by omega) (by omega), hp⟩
  · rw [if_neg (by omega), q, Nat.add_sub_cancel] at hp
    rw [q, pl_s, show (8 : Int32) = nI 8 from rfl, pk_mul, nI_add, at_60_7, nI_clamp (by omega), r5 i (by omega)]
    exact ⟨vp_in_nI (by omega) (by omega), hp⟩
theorem pl_ltn {p x : Nat} {A B : Prop} (hp : p < 1000000000) (hx : x < 1000000000) (f : p ≤ x → A) (h : x < p → B) : (sm_pl p < nI x → A) ∧ (¬ sm_pl p < nI x → B) := by
  rw [Int32.lt_iff_toInt_lt, pl_toInt (by omega), nI_toInt (by omega)]
  exact ⟨fun q => f (by omega), fun q => h (by omega)⟩
theorem c_firstInTime {r last : Nat} (hA : q_ok A) (hg : g < 1000000) (hu : cq_A u A) (hT : fl_T u A g (2 ^ qM A) 0) (hr : r < 2 ^ qM A) (hl : last ≤ qM A) (ht : t < 1000000) (hk : k < qM A) (hP : sq_P A g r last t k) (hm : ∀ j, j < k → ¬ sq_P A g r last t j) (hp : post (nI k) u) : wp_X2_firstInTime ms_E0 u 60 (nI r) (sm_pl last) (nI t) post := by
  have hM := hA.1
  have h8 := pw8 _ hM
  have st : ∀ m j, j + m = k → wp_X2_firstInTime_3 ms_E0 60 (nI r) (sm_pl last) (nI t) post (m + 1) u (nI j) := by
    intro m
    induction m with
    | zero =>
      intro j hj
      have e : j = k := by omega
      subst e
      have hP2 := hP.2
      obtain ⟨b1, b2, b3⟩ := bx r (by omega) j (by omega) hP.1
      have hl2 := l_le (k := j) hA hg (show r - 2 ^ j < 256 by omega)
      have bn : (r - 2 ^ j).testBit j = false := by rw [bj r (by omega) j (by omega) hP.1 j (by omega)]; simp
      unfold wp_X2_firstInTime_3
      rw [hu.1]
      refine ⟨fun q => absurd q (nI_ge (by omega) (by omega)), fun _ => q_cont (by omega) (by omega) (fun b => ?_) (fun b => ?_)⟩
      · refine c_wayTo hA hu hl hk (c_visitEnd hA hu hk ht (td_NO (fun q => by omega) (fun q => ?_)))
        rw [bt_1 (by omega), bt_xor, b1, show (8 : Int32) = nI 8 from rfl, pk_mul, nI_add, at_60_11, nI_clamp (show (r - 2 ^ j) * 8 + j < 2 ^ 31 by omega), hT _ j hk bn (by omega), td_near q]
        exact ⟨vp_in_nI (by omega) (by omega), pl_ltn (by omega) (by omega) (fun q => by omega) (fun q => hp)⟩
      · exact absurd hP.1 (by rw [b]; decide)
    | succ m ih =>
      intro j hj
      have ih := ih (j + 1) (by omega)
      have hn := hm j (by omega)
      unfold wp_X2_firstInTime_3 wp_X2_firstInTime_68
      rw [hu.1, nI_1]
      refine ⟨fun q => absurd q (nI_ge (by omega) (by omega)), fun _ => q_cont (by omega) (by omega) (fun b => ?_) (fun b => ih)⟩
      obtain ⟨b1, b2, b3⟩ := bx r (by omega) j (by omega) b
      have hl2 := l_le (k := j) hA hg (show r - 2 ^ j < 256 by omega)
      have bn : (r - 2 ^ j).testBit j = false := by rw [bj r (by omega) j (by omega) b j (by omega)]; simp
      refine c_wayTo hA hu hl (by omega) (c_visitEnd hA hu (by omega) ht (td_NO (fun q => ih) (fun q => ?_)))
      rw [bt_1 (by omega), bt_xor, b1, show (8 : Int32) = nI 8 from rfl, pk_mul, nI_add, at_60_11, nI_clamp (show (r - 2 ^ j) * 8 + j < 2 ^ 31 by omega), hT _ j (by omega) bn (by omega), td_near q]
      exact ⟨vp_in_nI (by omega) (by omega), pl_ltn (by omega) (by omega) (fun q => ih) (fun q => absurd ⟨b, q⟩ hn)⟩
  unfold wp_X2_firstInTime
  exact ⟨k + 1, st k 0 (by omega)⟩
/-- a first one is there -/
theorem P_first {r last : Nat} (h : ∃ j, j < qM A ∧ sq_P A g r last t j) : ∃ k, k < qM A ∧ sq_P A g r last t k ∧ ∀ j, j < k → ¬ sq_P A g r last t j := by
  obtain ⟨j, hj, hP⟩ := h
  have : ∀ n j, j < n → j < qM A → sq_P A g r last t j → ∃ k, k < qM A ∧ sq_P A g r last t k ∧ ∀ j, j < k → ¬ sq_P A g r last t j := by
    intro n
    induction n with
    | zero => intro j h; omega
    | succ n ih =>
      intro j h1 h2 h3
      by_cases c : ∃ i, i < j ∧ sq_P A g r last t i
      · obtain ⟨i, i1, i2⟩ := c
        exact ih i (by omega) (by omega) i2
      · exact ⟨j, h2, h3, fun i hi hp => c ⟨i, hi, hp⟩⟩
  exact this (j + 1) j (by omega) hj hP
theorem cn_bit : ∀ m, m < 9 → ∀ s, s < 2 ^ m → ∀ k, k < m → s.testBit k = true → sp_cn (s - 2 ^ k) m + 1 = sp_cn s m := by decide +kernel
theorem cn_full : ∀ m, m < 9 → sp_cn (2 ^ m - 1) m = m := by decide +kernel
theorem cn_0 : ∀ m, sp_cn 0 m = 0
  | 0 => rfl
  | m + 1 => by rw [cn_s, cn_0 m]; simp
theorem c_findOrder {mb : Nat → Nat} (hA : q_ok A) (h0 : 0 < qM A) (hg : sq_se A (2 ^ qM A - 1) = g) (hg2 : g < 1000000) (hu : cq_A u A) (hm : ∀ k, k < qM A → ms_I u 62 k = nI (mb k)) (hp : ∀ u', (∀ a b, a ≠ 61 → a ≠ 69 → ms_I u' a b = ms_I u a b) → ms_J u' = ms_J u → (∀ i, i < qM A → ms_I u' 61 i = nI (mb (sq_g A g (qM A) (2 ^ qM A - 1) 0 (qB A) i))) → pv u') : wp_X2_findOrder ms_E0 u 60 (nI g) pv := by
  have hM := hA.1
  have hB := hA.2.1
  have h8 := pw8 _ hM
  have p := Nat.two_pow_pos (qM A)
  unfold wp_X2_findOrder
  refine c_findLate hA hg2 hu (fun u1 hF1 hT1 => ?_)
  have hu1 := fr_A hF1 (by omega) hu
  have e : nI (2 ^ qM A) - 1 = nI (2 ^ qM A - 1) := pk_sub (b := 1) p
  rw [hu1.1, hu1.2.1, bt_1 (by omega), e]
  intro v13 e13 v20 e20
  subst e13
  subst e20
  have st : ∀ n i v r last t, i + n = qM A → fr 61 u1 v → r < 2 ^ qM A → sp_cn r (qM A) = n → last ≤ qM A → t < 1000000 → (n ≠ 0 → ∃ j, j < qM A ∧ sq_P A g r last t j) → (∀ v', fr 61 u1 v' → (∀ d, d < i → ms_I v' 61 d = ms_I v 61 d) → (∀ d, d < n → ms_I v' 61 (i + d) = nI (mb (sq_g A g n r last t d))) → pv v') → wp_X2_findOrder_25 ms_E0 60 (nI g) pv (n + 1) v (nI r) (sm_pl last) (nI t) (nI i) := by
    intro n
    induction n with
    | zero =>
      intro i v r last t hi hF hr hc hl ht hex hpv
      have hu' := fr_A hF (by omega) hu1
      unfold wp_X2_findOrder_25
      rw [hu'.1]
      exact ⟨fun _ => hpv v hF (fun d _ => rfl) (fun d hd => by omega), fun q => absurd (nI_le (by omega) (by omega)) q⟩
    | succ n ih =>
      intro i v r last t hi hF hr hc hl ht hex hpv
      have hu' := fr_A hF (by omega) hu1
      obtain ⟨k, hk, hP, hmin⟩ := P_first (hex (by omega))
      obtain ⟨b1, b2, b3⟩ := bx r (by omega) k (by omega) hP.1
      have hl2 := l_le (k := k) hA hg2 (show r - 2 ^ k < 256 by omega)
      have hP2 := hP.2
      have ef : sq_f A g r last t (qM A) 0 = k := f_eq hP (qM A) 0 (by omega) (by omega) (fun j _ hj => hmin j hj)
      have hT' : fl_T v A g (2 ^ qM A) 0 := fun a b h1 h2 h3 => by rw [hF.1 69 _ (by omega)]; exact hT1 a b h1 h2 h3
      have m62 : ms_I v 62 k = nI (mb k) := by rw [hF.1 62 k (by omega), hF1.1 62 k (by omega)]; exact hm k hk
      have cn1 := cn_bit _ (show qM A < 9 by omega) r hr k hk hP.1
      unfold wp_X2_findOrder_25
      rw [hu'.1]
      refine ⟨fun q => absurd q (nI_ge (by omega) (by omega)), fun _ => c_firstInTime hA hg2 hu' hT' hr hl ht hk hP hmin ⟨fun q => absurd q (NO_ne (by omega)), fun _ => ⟨vp_in_nI (by omega) (by omega), vp_in_nI (by omega) (by omega), fun w64 e64 => ?_⟩⟩⟩
      rw [at_60_1, at_60_3, nI_clamp (by omega), nI_clamp (by omega), m62] at e64
      have hF64 : fr 61 u1 w64 := by rw [e64]; exact fr_w hF
      have hu64 := fr_A hF64 (by omega) hu1
      refine c_wayTo hA hu64 hl hk (c_visitEnd hA hu64 hk ht ?_)
      intro v88 e88
      rw [bt_1 (by omega), bt_xor, b1] at e88
      subst e88
      rw [td_near (by omega), nI_1]
      refine ih (i + 1) w64 (r - 2 ^ k) (k + 1) _ (by omega) hF64 (by omega) (by omega) (by omega) (by omega) (fun hn => (LL hA hg2 (by omega) (fun z => ?_)).mp hP2) (fun v' h1 h2 h3 => hpv v' h1 (fun d hd => ?_) (fun d hd => ?_))
      · rw [z, cn_0] at cn1
        omega
      · rw [h2 d (by omega), e64, I_sI, if_neg (by omega)]
      · rw [g_s, ef]
        cases d with
        | zero => rw [if_pos rfl, Nat.add_zero, h2 i (by omega), e64, I_sI, if_pos ⟨rfl, rfl⟩]
        | succ d =>
          rw [if_neg (by omega), Nat.add_sub_cancel, show i + (d + 1) = i + 1 + d by omega]
          exact h3 d (by omega)
  refine ⟨qM A + 1, st (qM A) 0 u1 (2 ^ qM A - 1) 0 (qB A) (by omega) ⟨fun _ _ _ => rfl, rfl⟩ (by omega) (cn_full _ (by omega)) (by omega) (by omega) (fun _ => feas0 hA h0 hg hg2) (fun v' h1 h2 h3 => hp v' (fun a b q1 q2 => ?_) (h1.2.trans hF1.2) (fun i hi => ?_))⟩
  · rw [h1.1 a b q1, hF1.1 a b q2]
  · have := h3 i hi
    rw [Nat.zero_add] at this
    exact this
end SN
