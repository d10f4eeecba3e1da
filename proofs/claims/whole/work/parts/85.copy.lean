/-! ===== copies of towns ===== -/
theorem nar01 {n : Nat} (h : n ≤ 1) : vp_nar .boolean (nI n) = nI n := by
  rcases (show n = 0 ∨ n = 1 by omega) with rfl | rfl <;> decide
theorem sA_cpy {u : ms_St} {c s n a b : Nat} : ms_I (ms_sA u c (va_cpy (ms_I u s) (ms_I u c) 0 0 n)) a b = if a = c ∧ b < n then ms_I u s b else ms_I u a b := by
  rw [I_sA]
  by_cases h : a = c
  · subst h
    rw [if_pos rfl]
    by_cases h2 : b < n
    · rw [pk_cpy_in (by omega) (by omega), if_pos ⟨rfl, h2⟩, Nat.zero_add, Nat.sub_zero]
    · rw [pk_cpy_out (by omega), if_neg (by omega)]
  · rw [if_neg h, if_neg (fun q => h q.1)]
def at_is (o k c : Nat) : Prop := ms_at ms_E0 o k = c
/-- a town's cells lie in a row -/
def tn_ok (t : Nat) : Prop := (at_is t 3 (t + 1) ∧ at_is t 4 (t + 6) ∧ at_is t 5 (t + 15)) ∧ (at_is (t + 1) 1 (t + 2) ∧ at_is (t + 1) 2 (t + 3) ∧ at_is (t + 1) 3 (t + 4) ∧ at_is (t + 1) 4 (t + 5)) ∧ (at_is (t + 6) 1 (t + 7) ∧ at_is (t + 6) 2 (t + 8) ∧ at_is (t + 6) 3 (t + 9) ∧ at_is (t + 6) 4 (t + 10) ∧ at_is (t + 6) 5 (t + 11) ∧ at_is (t + 6) 6 (t + 12) ∧ at_is (t + 6) 7 (t + 13) ∧ at_is (t + 6) 8 (t + 14)) ∧ (at_is (t + 15) 1 (t + 16) ∧ at_is (t + 15) 2 (t + 17) ∧ at_is (t + 15) 3 (t + 18) ∧ at_is (t + 15) 4 (t + 19))
theorem tn_2 : tn_ok 2 := by unfold tn_ok at_is; decide +kernel
theorem tn_24 : tn_ok 24 := by unfold tn_ok at_is; decide +kernel
theorem tn_p : ∀ k, k < 8 → tn_ok (73 + 20 * k) := by unfold tn_ok at_is; decide +kernel
theorem at22 : ∀ k, k < 8 → ms_at ms_E0 22 k = 73 + 20 * k := by decide +kernel
def cp_R (T T' : Nat → Nat → Int32) : Prop := (T' 0 0 = T 0 0 ∧ T' 0 1 = T 0 1 ∧ T' 0 2 = T 0 2 ∧ T' 1 0 = T 1 0 ∧ T' 6 0 = T 6 0 ∧ T' 15 0 = T 15 0) ∧ (∀ y, y < 12 → T' 2 y = T 2 y ∧ T' 3 y = T 3 y ∧ T' 4 y = T 4 y ∧ T' 5 y = vp_nar .boolean (T 5 y)) ∧ (∀ y, y < 16 → T' 7 y = T 7 y ∧ T' 8 y = T 8 y ∧ T' 9 y = T 9 y ∧ T' 10 y = T 10 y ∧ T' 11 y = T 11 y ∧ T' 12 y = T 12 y ∧ T' 13 y = vp_nar .boolean (T 13 y)) ∧ (∀ y, y < 64 → T' 14 y = T 14 y) ∧ (∀ y, y < 3 → T' 16 y = T 16 y ∧ T' 17 y = T 17 y ∧ T' 18 y = T 18 y) ∧ ∀ y, y < 36 → T' 19 y = T 19 y
theorem sp_R_cp {T T' : Nat → Nat → Int32} {D : Nat → Nat} {l : List ms_Op} (hV : sp_V D l) (hR : sp_R T D l) (h : cp_R T T') : sp_R T' D l := by
  obtain ⟨⟨a1, a2, a3, a4, a5, a6⟩, hs, hh, hv, hw, hq⟩ := h
  have c1 := hV.1.2.1
  have c2 := hV.1.2.2.1
  have c3 := hV.1.2.2.2.1
  refine ⟨⟨a1.trans hR.1.1, a2.trans hR.1.2.1, fun q => a3.trans (hR.1.2.2.1 q), a4.trans hR.1.2.2.2.1, a5.trans hR.1.2.2.2.2.1, a6.trans hR.1.2.2.2.2.2⟩, fun s q => ?_, fun x q => ?_, fun w q => ?_⟩
  · obtain ⟨b1, b2, b3, b4⟩ := hs s (by omega)
    obtain ⟨r1, r2, r3, r4⟩ := hR.2.1 s q
    refine ⟨b1.trans r1, b2.trans r2, b3.trans r3, ?_⟩
    rw [b4, r4, nar01 (by omega)]
  · obtain ⟨b1, b2, b3, b4, b5, b6, b7⟩ := hh x (by omega)
    obtain ⟨r1, r2, r3, r4, r5, r6, r7, r8⟩ := hR.2.2.1 x q
    refine ⟨b1.trans r1, b2.trans r2, b3.trans r3, b4.trans r4, b5.trans r5, b6.trans r6, ?_, fun g c hg hc => ?_⟩
    · rw [b7, r7, nar01 (hV.2.2.1 x q).2.2.2.2.2.2]
    · rw [hv _ (by omega)]; exact r8 g c hg hc
  · obtain ⟨b1, b2, b3⟩ := hw w (by omega)
    obtain ⟨r1, r2, r3, r4⟩ := hR.2.2.2 w q
    have := (hV.2.2.2.1 w q).2.2.1
    refine ⟨b1.trans r1, b2.trans r2, b3.trans r3, fun k hk => ?_⟩
    rw [hq _ (by omega)]; exact r4 k hk
section CP
variable {u : ms_St} {o s : Nat} {pv : ms_St → Prop}
theorem c_cpS (o1 : at_is o 1 (o + 1)) (o2 : at_is o 2 (o + 2)) (o3 : at_is o 3 (o + 3)) (o4 : at_is o 4 (o + 4)) (s1 : at_is s 1 (s + 1)) (s2 : at_is s 2 (s + 2)) (s3 : at_is s 3 (s + 3)) (s4 : at_is s 4 (s + 4)) (hd : o + 5 ≤ s ∨ s + 5 ≤ o)
    (hp : ∀ u', (∀ x y, ¬ (o ≤ x ∧ x < o + 5) → ms_I u' x y = ms_I u x y) → ms_J u' = ms_J u → ms_I u' o 0 = ms_I u s 0 → (∀ y, y < 12 → ms_I u' (o + 1) y = ms_I u (s + 1) y ∧ ms_I u' (o + 2) y = ms_I u (s + 2) y ∧ ms_I u' (o + 3) y = ms_I u (s + 3) y ∧ ms_I u' (o + 4) y = vp_nar .boolean (ms_I u (s + 4) y)) → pv u') : wp_X5_copyFrom ms_E0 u o s pv := by
  unfold wp_X5_copyFrom
  rw [show ms_at ms_E0 _ _ = _ from o1, show ms_at ms_E0 _ _ = _ from o2, show ms_at ms_E0 _ _ = _ from o3, show ms_at ms_E0 _ _ = _ from s1, show ms_at ms_E0 _ _ = _ from s2, show ms_at ms_E0 _ _ = _ from s3]
  intro w20 e20 w35 e35 w50 e50
  have f : ∀ x y, ms_I w50 x y = if x = o + 3 ∧ y < 12 then ms_I u (s + 3) y else if x = o + 2 ∧ y < 12 then ms_I u (s + 2) y else if x = o + 1 ∧ y < 12 then ms_I u (s + 1) y else if x = o ∧ y = 0 then ms_I u s 0 else ms_I u x y := by
    intro x y
    simp only [e50, e35, e20, sA_cpy, I_sI]
    repeat' split
    all_goals first | rfl | omega
  have fJ : ms_J w50 = ms_J u := by rw [e50, e35, e20]; rfl
  have st : ∀ m j v, j + m = 12 → (∀ x y, ¬ (x = o + 4 ∧ y < j) → ms_I v x y = ms_I w50 x y) → ms_J v = ms_J w50 → (∀ y, y < j → ms_I v (o + 4) y = vp_nar .boolean (ms_I w50 (s + 4) y)) → wp_X5_copyFrom_55 ms_E0 o s pv (m + 1) v (nI j) := by
    intro m
    induction m with
    | zero =>
      intro j v hj h1 h2 h3
      have e : j = 12 := by omega
      subst e
      unfold wp_X5_copyFrom_55
      refine ⟨fun _ => hp v (fun x y q => ?_) (h2.trans fJ) ?_ (fun y hy => ⟨?_, ?_, ?_, ?_⟩), fun q => absurd (nI_le (a := 12) (b := 12) (by omega) (by omega)) q⟩
      · rw [h1 x y (by omega), f]
        repeat' split
        all_goals first | rfl | omega
      · rw [h1 o 0 (by omega), f]
        repeat' split
        all_goals first | rfl | omega
      · rw [h1 _ _ (by omega), f]
        repeat' split
        all_goals first | rfl | omega
      · rw [h1 _ _ (by omega), f]
        repeat' split
        all_goals first | rfl | omega
      · rw [h1 _ _ (by omega), f]
        repeat' split
        all_goals first | rfl | omega
      · rw [h3 y hy, f]
        repeat' split
        all_goals first | rfl | omega
    | succ m ih =>
      intro j v hj h1 h2 h3
      unfold wp_X5_copyFrom_55
      rw [show ms_at ms_E0 _ _ = _ from o4, show ms_at ms_E0 _ _ = _ from s4, nI_clamp (show j < 2 ^ 31 by omega), nI_1]
      refine ⟨fun q => absurd q (nI_ge (a := j) (b := 12) (by omega) (by omega)), fun _ => ⟨vp_in_nI (by omega) (by omega), vp_in_nI (by omega) (by omega), fun w e => ?_⟩⟩
      rw [h1 (s + 4) j (by omega)] at e
      subst e
      refine ih (j + 1) _ (by omega) (fun x y q => ?_) h2 (fun y hy => ?_)
      · rw [I_sI, if_neg (by omega)]; exact h1 x y (by omega)
      · rw [I_sI]
        by_cases q : y = j
        · rw [if_pos ⟨rfl, q⟩, q]
        · rw [if_neg (by omega)]; exact h3 y (by omega)
  exact ⟨13, st 12 0 w50 (by omega) (fun _ _ _ => rfl) rfl (fun y hy => by omega)⟩
theorem c_cpH (o1 : at_is o 1 (o + 1)) (o2 : at_is o 2 (o + 2)) (o3 : at_is o 3 (o + 3)) (o4 : at_is o 4 (o + 4)) (o5 : at_is o 5 (o + 5)) (o6 : at_is o 6 (o + 6)) (o7 : at_is o 7 (o + 7)) (o8 : at_is o 8 (o + 8)) (s1 : at_is s 1 (s + 1)) (s2 : at_is s 2 (s + 2)) (s3 : at_is s 3 (s + 3)) (s4 : at_is s 4 (s + 4)) (s5 : at_is s 5 (s + 5)) (s6 : at_is s 6 (s + 6)) (s7 : at_is s 7 (s + 7)) (s8 : at_is s 8 (s + 8)) (hd : o + 9 ≤ s ∨ s + 9 ≤ o)
    (hp : ∀ u', (∀ x y, ¬ (o ≤ x ∧ x < o + 9) → ms_I u' x y = ms_I u x y) → ms_J u' = ms_J u → ms_I u' o 0 = ms_I u s 0 → (∀ k y, 1 ≤ k → k ≤ 6 → y < 16 → ms_I u' (o + k) y = ms_I u (s + k) y) → (∀ y, y < 64 → ms_I u' (o + 8) y = ms_I u (s + 8) y) → (∀ y, y < 16 → ms_I u' (o + 7) y = vp_nar .boolean (ms_I u (s + 7) y)) → pv u') : wp_X0_copyFrom ms_E0 u o s pv := by
  unfold wp_X0_copyFrom
  rw [show ms_at ms_E0 _ _ = _ from o1, show ms_at ms_E0 _ _ = _ from o2, show ms_at ms_E0 _ _ = _ from o3, show ms_at ms_E0 _ _ = _ from o4, show ms_at ms_E0 _ _ = _ from o5, show ms_at ms_E0 _ _ = _ from o6, show ms_at ms_E0 _ _ = _ from o8, show ms_at ms_E0 _ _ = _ from s1, show ms_at ms_E0 _ _ = _ from s2, show ms_at ms_E0 _ _ = _ from s3, show ms_at ms_E0 _ _ = _ from s4, show ms_at ms_E0 _ _ = _ from s5, show ms_at ms_E0 _ _ = _ from s6, show ms_at ms_E0 _ _ = _ from s8]
  intro w20 e20 w35 e35 w50 e50 w65 e65 w80 e80 w95 e95 w110 e110
  have f35 : ∀ x y, ms_I w35 x y = if o + 1 ≤ x ∧ x ≤ o + 2 ∧ y < 16 then ms_I u (s + (x - o)) y else if x = o ∧ y = 0 then ms_I u s 0 else ms_I u x y := by
    intro x y
    simp only [e35, e20, sA_cpy, I_sI]
    repeat' split
    all_goals first | rfl | omega | (rw [show x - o = 1 by omega]) | (rw [show x - o = 2 by omega])
  have f65 : ∀ x y, ms_I w65 x y = if o + 1 ≤ x ∧ x ≤ o + 4 ∧ y < 16 then ms_I u (s + (x - o)) y else if x = o ∧ y = 0 then ms_I u s 0 else ms_I u x y := by
    intro x y
    simp only [e65, e50, sA_cpy, f35]
    repeat' split
    all_goals first | rfl | omega | (rw [show x - o = 3 by omega]) | (rw [show x - o = 4 by omega])
  have f95 : ∀ x y, ms_I w95 x y = if o + 1 ≤ x ∧ x ≤ o + 6 ∧ y < 16 then ms_I u (s + (x - o)) y else if x = o ∧ y = 0 then ms_I u s 0 else ms_I u x y := by
    intro x y
    simp only [e95, e80, sA_cpy, f65]
    repeat' split
    all_goals first | rfl | omega | (rw [show x - o = 5 by omega]) | (rw [show x - o = 6 by omega])
  have f : ∀ x y, ms_I w110 x y = if x = o + 8 ∧ y < 64 then ms_I u (s + 8) y else if o + 1 ≤ x ∧ x ≤ o + 6 ∧ y < 16 then ms_I u (s + (x - o)) y else if x = o ∧ y = 0 then ms_I u s 0 else ms_I u x y := by
    intro x y
    simp only [e110, sA_cpy, f95]
    repeat' split
    all_goals first | rfl | omega
  have fJ : ms_J w110 = ms_J u := by rw [e110, e95, e80, e65, e50, e35, e20]; rfl
  have st : ∀ m j v, j + m = 16 → (∀ x y, ¬ (x = o + 7 ∧ y < j) → ms_I v x y = ms_I w110 x y) → ms_J v = ms_J w110 → (∀ y, y < j → ms_I v (o + 7) y = vp_nar .boolean (ms_I w110 (s + 7) y)) → wp_X0_copyFrom_115 ms_E0 o s pv (m + 1) v (nI j) := by
    intro m
    induction m with
    | zero =>
      intro j v hj h1 h2 h3
      have e : j = 16 := by omega
      subst e
      unfold wp_X0_copyFrom_115
      refine ⟨fun _ => hp v (fun x y q => ?_) (h2.trans fJ) ?_ (fun k y hk hk2 hy => ?_) (fun y hy => ?_) (fun y hy => ?_), fun q => absurd (nI_le (a := 16) (b := 16) (by omega) (by omega)) q⟩
      · rw [h1 x y (by omega), f]
        repeat' split
        all_goals first | rfl | omega
      · rw [h1 o 0 (by omega), f]
        repeat' split
        all_goals first | rfl | omega
      · rw [h1 _ _ (by omega), f, if_neg (by omega), if_pos (by omega), Nat.add_sub_cancel_left]
      · rw [h1 _ _ (by omega), f]
        repeat' split
        all_goals first | rfl | omega
      · rw [h3 y hy, f]
        repeat' split
        all_goals first | rfl | omega
    | succ m ih =>
      intro j v hj h1 h2 h3
      unfold wp_X0_copyFrom_115
      rw [show ms_at ms_E0 _ _ = _ from o7, show ms_at ms_E0 _ _ = _ from s7, nI_clamp (show j < 2 ^ 31 by omega), nI_1]
      refine ⟨fun q => absurd q (nI_ge (a := j) (b := 16) (by omega) (by omega)), fun _ => ⟨vp_in_nI (by omega) (by omega), vp_in_nI (by omega) (by omega), fun w e => ?_⟩⟩
      rw [h1 (s + 7) j (by omega)] at e
      subst e
      refine ih (j + 1) _ (by omega) (fun x y q => ?_) h2 (fun y hy => ?_)
      · rw [I_sI, if_neg (by omega)]; exact h1 x y (by omega)
      · rw [I_sI]
        by_cases q : y = j
        · rw [if_pos ⟨rfl, q⟩, q]
        · rw [if_neg (by omega)]; exact h3 y (by omega)
  exact ⟨17, st 16 0 w110 (by omega) (fun _ _ _ => rfl) rfl (fun y hy => by omega)⟩
theorem c_cpW (o1 : at_is o 1 (o + 1)) (o2 : at_is o 2 (o + 2)) (o3 : at_is o 3 (o + 3)) (o4 : at_is o 4 (o + 4)) (s1 : at_is s 1 (s + 1)) (s2 : at_is s 2 (s + 2)) (s3 : at_is s 3 (s + 3)) (s4 : at_is s 4 (s + 4)) (hd : o + 5 ≤ s ∨ s + 5 ≤ o)
    (hp : ∀ u', (∀ x y, ¬ (o ≤ x ∧ x < o + 5) → ms_I u' x y = ms_I u x y) → ms_J u' = ms_J u → ms_I u' o 0 = ms_I u s 0 → (∀ y, y < 3 → ms_I u' (o + 1) y = ms_I u (s + 1) y ∧ ms_I u' (o + 2) y = ms_I u (s + 2) y ∧ ms_I u' (o + 3) y = ms_I u (s + 3) y) → (∀ y, y < 36 → ms_I u' (o + 4) y = ms_I u (s + 4) y) → pv u') : wp_X9_copyFrom ms_E0 u o s pv := by
  unfold wp_X9_copyFrom
  rw [show ms_at ms_E0 _ _ = _ from o1, show ms_at ms_E0 _ _ = _ from o2, show ms_at ms_E0 _ _ = _ from o3, show ms_at ms_E0 _ _ = _ from o4, show ms_at ms_E0 _ _ = _ from s1, show ms_at ms_E0 _ _ = _ from s2, show ms_at ms_E0 _ _ = _ from s3, show ms_at ms_E0 _ _ = _ from s4]
  intro w20 e20 w35 e35 w50 e50 w62 e62
  have f : ∀ x y, ms_I w62 x y = if x = o + 4 ∧ y < 36 then ms_I u (s + 4) y else if x = o + 3 ∧ y < 3 then ms_I u (s + 3) y else if x = o + 2 ∧ y < 3 then ms_I u (s + 2) y else if x = o + 1 ∧ y < 3 then ms_I u (s + 1) y else if x = o ∧ y = 0 then ms_I u s 0 else ms_I u x y := by
    intro x y
    simp only [e62, e50, e35, e20, sA_cpy, I_sI]
    repeat' split
    all_goals first | rfl | omega
  refine hp w62 (fun x y q => ?_) (by rw [e62, e50, e35, e20]; rfl) ?_ (fun y hy => ⟨?_, ?_, ?_⟩) (fun y hy => ?_)
  all_goals
    rw [f]
    repeat' split
    all_goals first | rfl | omega
theorem c_copyFrom {t r : Nat} (ht : tn_ok t) (hr : tn_ok r) (hd : t + 20 ≤ r ∨ r + 20 ≤ t) (hp : ∀ u', (∀ x y, ¬ (t ≤ x ∧ x < t + 20) → ms_I u' x y = ms_I u x y) → ms_J u' = ms_J u → cp_R (sp_T u r) (sp_T u' t) → pv u') : wp_X7_copyFrom ms_E0 u t r pv := by
  obtain ⟨⟨t3, t4, t5⟩, ⟨a1, a2, a3, a4⟩, ⟨b1, b2, b3, b4, b5, b6, b7, b8⟩, ⟨c1, c2, c3, c4⟩⟩ := ht
  obtain ⟨⟨r3, r4, r5⟩, ⟨p1, p2, p3, p4⟩, ⟨q1, q2, q3, q4, q5, q6, q7, q8⟩, ⟨v1, v2, v3, v4⟩⟩ := hr
  unfold wp_X7_copyFrom
  rw [show ms_at ms_E0 _ _ = _ from t3, show ms_at ms_E0 _ _ = _ from t4, show ms_at ms_E0 _ _ = _ from t5, show ms_at ms_E0 _ _ = _ from r3, show ms_at ms_E0 _ _ = _ from r4, show ms_at ms_E0 _ _ = _ from r5]
  intro w21 e21
  have f : ∀ x y, ms_I w21 x y = if x = t ∧ y = 2 then ms_I u r 2 else if x = t ∧ y = 1 then ms_I u r 1 else if x = t ∧ y = 0 then ms_I u r 0 else ms_I u x y := by
    intro x y
    simp only [e21, I_sI]
    repeat' split
    all_goals first | rfl | omega
  have fJ : ms_J w21 = ms_J u := by rw [e21]; rfl
  have g : ∀ x y, x ≠ t → ms_I w21 x y = ms_I u x y := by
    intro x y q
    rw [f, if_neg (by omega), if_neg (by omega), if_neg (by omega)]
  refine c_cpS a1 a2 a3 a4 p1 p2 p3 p4 (by omega) (fun u1 k1 j1 z1 h1 => ?_)
  refine c_cpH b1 b2 b3 b4 b5 b6 b7 b8 q1 q2 q3 q4 q5 q6 q7 q8 (by omega) (fun u2 k2 j2 z2 h2 h2b h2c => ?_)
  refine c_cpW c1 c2 c3 c4 v1 v2 v3 v4 (by omega) (fun u3 k3 j3 z3 h3 h3b => ?_)
  refine hp u3 (fun x y q => ?_) (by rw [j3, j2, j1, fJ]) ⟨⟨?_, ?_, ?_, ?_, ?_, ?_⟩, fun y hy => ⟨?_, ?_, ?_, ?_⟩, fun y hy => ⟨?_, ?_, ?_, ?_, ?_, ?_, ?_⟩, fun y hy => ?_, fun y hy => ⟨?_, ?_, ?_⟩, fun y hy => ?_⟩
  · rw [k3 x y (by omega), k2 x y (by omega), k1 x y (by omega), g x y (by omega)]
  · show ms_I u3 (t + 0) 0 = ms_I u (r + 0) 0
    rw [k3 _ _ (by omega), k2 _ _ (by omega), k1 _ _ (by omega), f]
    simp
  · show ms_I u3 (t + 0) 1 = ms_I u (r + 0) 1
    rw [k3 _ _ (by omega), k2 _ _ (by omega), k1 _ _ (by omega), f]
    simp
  · show ms_I u3 (t + 0) 2 = ms_I u (r + 0) 2
    rw [k3 _ _ (by omega), k2 _ _ (by omega), k1 _ _ (by omega), f]
    simp
  · show ms_I u3 (t + 1) 0 = ms_I u (r + 1) 0
    rw [k3 _ _ (by omega), k2 _ _ (by omega), z1, g _ _ (by omega)]
  · show ms_I u3 (t + 6) 0 = ms_I u (r + 6) 0
    rw [k3 _ _ (by omega), z2, k1 _ _ (by omega), g _ _ (by omega)]
  · show ms_I u3 (t + 15) 0 = ms_I u (r + 15) 0
    rw [z3, k2 _ _ (by omega), k1 _ _ (by omega), g _ _ (by omega)]
  · show ms_I u3 (t + 1 + 1) y = ms_I u (r + 1 + 1) y
    rw [k3 _ _ (by omega), k2 _ _ (by omega), (h1 y hy).1, g _ _ (by omega)]
  · show ms_I u3 (t + 1 + 2) y = ms_I u (r + 1 + 2) y
    rw [k3 _ _ (by omega), k2 _ _ (by omega), (h1 y hy).2.1, g _ _ (by omega)]
  · show ms_I u3 (t + 1 + 3) y = ms_I u (r + 1 + 3) y
    rw [k3 _ _ (by omega), k2 _ _ (by omega), (h1 y hy).2.2.1, g _ _ (by omega)]
  · show ms_I u3 (t + 1 + 4) y = vp_nar .boolean (ms_I u (r + 1 + 4) y)
    rw [k3 _ _ (by omega), k2 _ _ (by omega), (h1 y hy).2.2.2, g _ _ (by omega)]
  · show ms_I u3 (t + 6 + 1) y = ms_I u (r + 6 + 1) y
    rw [k3 _ _ (by omega), h2 1 y (by omega) (by omega) hy, k1 _ _ (by omega), g _ _ (by omega)]
  · show ms_I u3 (t + 6 + 2) y = ms_I u (r + 6 + 2) y
    rw [k3 _ _ (by omega), h2 2 y (by omega) (by omega) hy, k1 _ _ (by omega), g _ _ (by omega)]
  · show ms_I u3 (t + 6 + 3) y = ms_I u (r + 6 + 3) y
    rw [k3 _ _ (by omega), h2 3 y (by omega) (by omega) hy, k1 _ _ (by omega), g _ _ (by omega)]
  · show ms_I u3 (t + 6 + 4) y = ms_I u (r + 6 + 4) y
    rw [k3 _ _ (by omega), h2 4 y (by omega) (by omega) hy, k1 _ _ (by omega), g _ _ (by omega)]
  · show ms_I u3 (t + 6 + 5) y = ms_I u (r + 6 + 5) y
    rw [k3 _ _ (by omega), h2 5 y (by omega) (by omega) hy, k1 _ _ (by omega), g _ _ (by omega)]
  · show ms_I u3 (t + 6 + 6) y = ms_I u (r + 6 + 6) y
    rw [k3 _ _ (by omega), h2 6 y (by omega) (by omega) hy, k1 _ _ (by omega), g _ _ (by omega)]
  · show ms_I u3 (t + 6 + 7) y = vp_nar .boolean (ms_I u (r + 6 + 7) y)
    rw [k3 _ _ (by omega), h2c y hy, k1 _ _ (by omega), g _ _ (by omega)]
  · show ms_I u3 (t + 6 + 8) y = ms_I u (r + 6 + 8) y
    rw [k3 _ _ (by omega), h2b y hy, k1 _ _ (by omega), g _ _ (by omega)]
  · show ms_I u3 (t + 15 + 1) y = ms_I u (r + 15 + 1) y
    rw [(h3 y hy).1, k2 _ _ (by omega), k1 _ _ (by omega), g _ _ (by omega)]
  · show ms_I u3 (t + 15 + 2) y = ms_I u (r + 15 + 2) y
    rw [(h3 y hy).2.1, k2 _ _ (by omega), k1 _ _ (by omega), g _ _ (by omega)]
  · show ms_I u3 (t + 15 + 3) y = ms_I u (r + 15 + 3) y
    rw [(h3 y hy).2.2, k2 _ _ (by omega), k1 _ _ (by omega), g _ _ (by omega)]
  · show ms_I u3 (t + 15 + 4) y = ms_I u (r + 15 + 4) y
    rw [h3b y hy, k2 _ _ (by omega), k1 _ _ (by omega), g _ _ (by omega)]
end CP
/-! the reference's copy -/
theorem m_copy {u : ms_St} {s d : Nat} {pv : ms_St → Prop} (hs : ms_N ms_E0 s = 1613) (hd : ms_N ms_E0 d = 1613) (hne : s ≠ d) (hp : ∀ u', (∀ a b, a ≠ d → ms_I u' a b = ms_I u a b) → ms_J u' = ms_J u → (∀ k, k < 1613 → ms_I u' d k = ms_I u s k) → pv u') : wp_X11_copy ms_E0 u s d pv := by
  have st : ∀ m j v, j + m = 1613 → (∀ a b, a ≠ d → ms_I v a b = ms_I u a b) → ms_J v = ms_J u → (∀ k, k < j → ms_I v d k = ms_I u s k) → wp_X11_copy_2 ms_E0 s d pv (m + 1) v (nI j) := by
    intro m
    induction m with
    | zero =>
      intro j v hj h1 h2 h3
      have e : j = 1613 := by omega
      subst e
      unfold wp_X11_copy_2
      exact ⟨fun _ => hp v h1 h2 h3, fun q => absurd (nI_le (a := 1613) (b := 1613) (by omega) (by omega)) q⟩
    | succ m ih =>
      intro j v hj h1 h2 h3
      unfold wp_X11_copy_2
      rw [hs, hd, nI_clamp (show j < 2 ^ 31 by omega), nI_1, h1 s j hne]
      refine ⟨fun q => absurd q (nI_ge (a := j) (b := 1613) (by omega) (by omega)), fun _ => ⟨vp_in_nI (by omega) (by omega), vp_in_nI (by omega) (by omega), ih (j + 1) _ (by omega) (fun a b q => ?_) h2 (fun k hk => ?_)⟩⟩
      · rw [I_sI, if_neg (by omega)]; exact h1 a b q
      · rw [I_sI]
        by_cases q : k = j
        · rw [if_pos ⟨rfl, q⟩, q]
        · rw [if_neg (by omega)]; exact h3 k (by omega)
  exact ⟨1614, st 1613 0 u (by omega) (fun _ _ _ => rfl) rfl (fun k hk => by omega)⟩
theorem n235 : ms_N ms_E0 235 = 1613 := by decide +kernel
theorem n236 : ms_N ms_E0 236 = 1613 := by decide +kernel
theorem n238 : ∀ k, k < 8 → ms_N ms_E0 (238 + k) = 1613 := by decide +kernel
theorem at237 : ∀ k, k < 8 → ms_at ms_E0 237 k = 238 + k := by decide +kernel
