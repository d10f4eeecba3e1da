/-! ===== the class reads a statement ===== -/
section CH
variable {B : Nat → Nat} {N q : Nat} {D : Nat → Nat} {l : List ms_Op} {u u0 : ms_St} {pv : ms_St → Prop} {post : Int32 → ms_St → Prop}
theorem cz_T {u1 : ms_St} {D' : Nat → Nat} (hz : cz u0 u B N q D l) (k : ∀ x y, ¬ (24 ≤ x ∧ x ≤ 43) → ms_I u1 x y = ms_I u x y) (j : ms_J u1 = ms_J u) (ht : tz (sp_T u1 24) D') (e1 : D' 2000 = D 2000) (e2 : D' 2001 = D 2001) (e3 : D' 6 = D 6) : cz u0 u1 B N q D' l := by
  obtain ⟨g1, g2, g3, g4, g5, g6, g7, g8, g9⟩ := hz
  refine ⟨⟨fun a b z => ?_, j.trans g1.2⟩, g2, ?_, ?_, ?_, ht, ?_, ?_, ?_⟩
  · rw [k a b (by omega)]; exact g1.1 a b z
  · unfold tk at g3 ⊢
    rw [k 44 0 (by omega), k 44 1 (by omega), k 44 2 (by omega), k 44 3 (by omega), k 44 4 (by omega), k 44 5 (by omega)]
    exact g3
  · exact ⟨by rw [k 46 1 (by omega)]; exact g4.1, fun i hi => by rw [k 47 i (by omega)]; exact g4.2 i hi⟩
  · rw [k 23 2 (by omega), k 23 1 (by omega)]; exact g5
  · rw [k 23 5 (by omega), e1]; exact g7
  · rw [k 23 6 (by omega), e2]; exact g8
  · rw [k 23 7 (by omega), e3]; exact g9
theorem tz_ho {T T' : Nat → Nat → Int32} {s o e p f t g : Nat} (h : tz T D) (hd : pw D l) (h2 : D 2 < 16) (k : ∀ i y, ¬ (6 ≤ i ∧ i ≤ 13) → i < 20 → T' i y = T i y) (e0 : T' 6 0 = nI (D 2 + 1)) (e1 : ∀ y, T' 7 y = if y = D 2 then nI s else T 7 y) (e2 : ∀ y, T' 8 y = if y = D 2 then nI o else T 8 y) (e3 : ∀ y, T' 9 y = if y = D 2 then nI e else T 9 y) (e4 : ∀ y, T' 10 y = if y = D 2 then nI p else T 10 y) (e5 : ∀ y, T' 11 y = if y = D 2 then nI f else T 11 y) (e6 : ∀ y, T' 12 y = if y = D 2 then nI t else T 12 y) (e7 : ∀ y, T' 13 y = if y = D 2 then nI g else T 13 y) : tz T' (ho_D D s o e p f t g) := by
  obtain ⟨⟨x0, x1, x2, x3, x4, x5⟩, hs, hh, hw⟩ := h
  have c1 := hd.1.2.2.1
  obtain ⟨k0, k1, k2, k3, k4, k5, k6⟩ := ho_at (D := D) (s := s) (o := o) (e := e) (p := p) (f := f) (t := t) (g := g)
  have F : ∀ k, k ≠ 2 → (k < 56 ∨ 168 ≤ k) → ho_D D s o e p f t g k = D k := fun k z z2 => ho_f z (by omega)
  refine ⟨⟨?_, ?_, ?_, ?_, ?_, ?_⟩, fun s z => ?_, fun h z => ?_, fun w z => ?_⟩
  · rw [k 0 0 (by omega) (by omega), F 0 (by omega) (by omega)]; exact x0
  · rw [k 0 1 (by omega) (by omega), F 4 (by omega) (by omega)]; exact x1
  · rw [k 0 2 (by omega) (by omega), F 5 (by omega) (by omega)]; exact x2
  · rw [k 1 0 (by omega) (by omega), F 1 (by omega) (by omega)]; exact x3
  · rw [e0, ho_2]
  · rw [k 15 0 (by omega) (by omega), F 3 (by omega) (by omega)]; exact x5
  · rw [F 1 (by omega) (by omega)] at z
    rw [k 2 _ (by omega) (by omega), k 3 _ (by omega) (by omega), k 4 _ (by omega) (by omega), k 5 _ (by omega) (by omega), F (8 + 4 * s) (by omega) (by omega), F (8 + 4 * s + 1) (by omega) (by omega), F (8 + 4 * s + 2) (by omega) (by omega)]
    exact hs s z
  · rw [ho_2] at z
    rw [e1, e2, e3, e4, e5, e6, e7]
    by_cases q : h = D 2
    · rw [if_pos q, if_pos q, if_pos q, if_pos q, if_pos q, if_pos q, if_pos q, q, k0, k1, k2, k3, k4, k5, k6]
      exact ⟨rfl, rfl, rfl, rfl, rfl, rfl, rfl⟩
    · rw [if_neg q, if_neg q, if_neg q, if_neg q, if_neg q, if_neg q, if_neg q, ho_f (k := 56 + 7 * h) (by omega) (by omega), ho_f (k := 56 + 7 * h + 1) (by omega) (by omega), ho_f (k := 56 + 7 * h + 2) (by omega) (by omega), ho_f (k := 56 + 7 * h + 3) (by omega) (by omega), ho_f (k := 56 + 7 * h + 4) (by omega) (by omega), ho_f (k := 56 + 7 * h + 5) (by omega) (by omega), ho_f (k := 56 + 7 * h + 6) (by omega) (by omega)]
      exact hh h (by omega)
  · rw [F 3 (by omega) (by omega)] at z
    rw [k 16 _ (by omega) (by omega), k 17 _ (by omega) (by omega), k 18 _ (by omega) (by omega), F (168 + 15 * w) (by omega) (by omega), F (168 + 15 * w + 1) (by omega) (by omega)]
    exact hw w z
theorem h1_at {o n x y : Nat} {v : Int32} (h : x ≠ o) : ms_I (ms_sI u o n v) x y = ms_I u x y := by rw [I_sI, if_neg (by omega)]
theorem h2_at {o n y : Nat} {v : Int32} : ms_I (ms_sI u o n v) o y = if y = n then v else ms_I u o y := by
  rw [I_sI]
  by_cases h : y = n
  · rw [if_pos ⟨rfl, h⟩, if_pos h]
  · rw [if_neg (fun z => h z.2), if_neg h]
theorem c_house (hB : bt_C u0 B N) (hz : cz u0 u B N q D l) (hd : pw D l) (hw : pz_wd B N w_house q = true) (hp : cs_P u0 B N post (if D 2 = 16 then Sum.inl (4, q) else pz_ho B N (pz_s B N (q + 5)) D l)) : wp_X3_house ms_E0 u 23 post := by
  have c1 := hd.1.2.2.1
  have c2 := hd.1.2.2.2.1
  have e30 : ms_I u 30 0 = nI (D 2) := hz.2.2.2.2.2.1.1.2.2.2.2.1
  have n164 : ∀ {v : ms_St} {b1 : Nat} {x2 x3 x4 x5 x6 x7 : Int32}, post 0 v → wp_X3_house_164 ms_E0 23 post v b1 x2 x3 x4 x5 x6 x7 (-1) := fun h => ⟨fun _ => h, fun z => absurd rfl z⟩
  have n141 : ∀ {v : ms_St} {b1 : Nat} {x2 x3 x4 x5 x6 : Int32}, post 0 v → wp_X3_house_141 ms_E0 23 post v b1 x2 x3 x4 x5 x6 (-1) := fun h => ⟨fun _ => n164 h, fun z => absurd rfl z⟩
  have n121 : ∀ {v : ms_St} {b1 : Nat} {x2 x3 x4 x5 : Int32}, post 0 v → wp_X3_house_121 ms_E0 23 post v b1 x2 x3 x4 x5 (-1) := fun h => ⟨fun _ => n141 h, fun z => absurd rfl z⟩
  have n102 : ∀ {v : ms_St} {b1 : Nat} {x2 x3 x4 : Int32}, post 0 v → wp_X3_house_102 ms_E0 23 post v b1 x2 x3 x4 (-1) := fun h => ⟨fun _ => n121 h, fun z => absurd rfl z⟩
  unfold wp_X3_house wp_X3_fail
  rw [at_23_0, at_24_4, at_24_3, at_23_3, at_25_3, z_f1 hz, e30]
  intro v12 e12
  subst e12
  refine pk_lt (D 2) 16 (fun h16 => ?_) (fun h16 => ?_)
  · rw [if_neg (by omega)] at hp
    refine z_word k3 (by decide) hB hz hw (fun u1 hz1 => ?_)
    rw [show ms_I u1 25 0 = nI (D 1) from hz1.2.2.2.2.2.1.1.2.2.2.1]
    unfold pz_ho at hp
    refine z_num (post := post) hB hz1 (by omega) (by omega) rfl rfl _ hp (fun v hv => ?_) (fun s q2 n1 hp u2 hz2 => ?_)
    · rw [q_X5_has, if_neg (fun z => absurd z.1 (by decide))]
      exact ⟨fun _ => hv, fun z => absurd rfl z⟩
    have hs := (n_ok hz1.2.1 n1).2.2.2.2.1
    have hs2 := hd.2.1 s hs
    rw [q_X5_has, show ms_I u2 25 0 = nI (D 1) from hz2.2.2.2.2.2.1.1.2.2.2.1, if_pos ⟨nI_le (a := 0) (by omega) (by omega), nI_lt (by omega) (by omega)⟩]
    refine ⟨fun z => absurd z (by decide), fun _ => ⟨vp_in_nI (by omega) (by omega), ?_⟩⟩
    rw [nI_clamp (by omega), show ms_I u2 28 s = nI (D (8 + 4 * s + 2)) from (hz2.2.2.2.2.2.1.2.1 s hs).2.2.1]
    refine z_num (post := post) hB hz2 (by omega) (by omega) rfl (nI_pred _).symm _ hp (fun v hv => ⟨fun _ => n102 hv, fun z => absurd rfl z⟩) (fun o q3 n2 hp u3 hz3 => ⟨fun z => absurd z (NO_ne (by have := (n_ok hz2.2.1 n2).2.2.2.2.1; omega)), fun _ => ?_⟩)
    refine z_num (post := post) (lo := 0) (hx := 2) hB hz3 (by omega) (by omega) rfl rfl _ hp (fun v hv => n102 hv) (fun e q4 n3 hp u4 hz4 => ⟨fun z => absurd z (NO_ne (by have := (n_ok hz3.2.1 n3).2.2.2.2.1; omega)), fun _ => ?_⟩)
    refine z_num (post := post) (lo := 0) (hx := 21) hB hz4 (by omega) (by omega) rfl rfl _ hp (fun v hv => n121 hv) (fun p q5 n4 hp u5 hz5 => ⟨fun z => absurd z (NO_ne (by have := (n_ok hz4.2.1 n4).2.2.2.2.1; omega)), fun _ => ?_⟩)
    refine z_num (post := post) (lo := 0) (hx := 1440) hB hz5 (by omega) (by omega) rfl rfl _ hp (fun v hv => n141 hv) (fun f q6 n5 hp u6 hz6 => ⟨fun z => absurd z (NO_ne (by have := (n_ok hz5.2.1 n5).2.2.2.2.1; omega)), fun _ => ?_⟩)
    have hf := (n_ok hz5.2.1 n5).2.2.2.2.1
    refine z_num (post := post) (lo := f + 1) (hx := 1441) hB hz6 (by omega) (by omega) (nI_1 f) rfl _ hp (fun v hv => n164 hv) (fun t q7 n6 hp u7 hz7 => ⟨fun z => absurd z (NO_ne (by have := (n_ok hz6.2.1 n6).2.2.2.2.1; omega)), fun _ => ?_⟩)
    have vn : vp_in (nI (D 2)) 16 := vp_in_nI h16 (by omega)
    rw [at_30_1, at_30_2, at_30_3, at_30_4, at_30_5, at_30_6, at_30_7, at_23_3, nI_clamp (show D 2 < 2 ^ 31 by omega)]
    refine ⟨vn, vn, fun w188 e188 => ⟨vn, vn, fun w204 e204 => ⟨vn, vn, fun w220 e220 => ?_⟩⟩⟩
    have K : ∀ x y, ¬ (30 ≤ x ∧ x ≤ 37) → ms_I w220 x y = ms_I u7 x y := fun x y h => by rw [e220, h1_at (by omega), h1_at (by omega), e204, h1_at (by omega), h1_at (by omega), e188, h1_at (by omega), h1_at (by omega)]
    have KJ : ms_J w220 = ms_J u7 := by rw [e220, e204, e188]; rfl
    have tk7 : tk w220 B N q7 := by
      have g3 := hz7.2.2.1
      unfold tk at g3 ⊢
      rw [K 44 0 (by omega), K 44 1 (by omega), K 44 2 (by omega), K 44 3 (by omega), K 44 4 (by omega), K 44 5 (by omega)]
      exact g3
    have B7 : bt_C w220 B N := ⟨hB.1, fun k hk => by rw [K 1 k (by omega)]; exact (cz_B hB hz7).2 k hk⟩
    have fin : ∀ g, g ≤ 1 → ∀ w240, w240 = ms_sI (ms_sI w220 37 (D 2) (nI g)) 30 0 (nI (D 2 + 1)) → cz u0 w240 B N q7 (ho_D D s o e p f t g) l := by
      intro g hg w240 e240
      refine cz_T hz7 (fun x y z => ?_) (by rw [e240]; exact KJ) (tz_ho (T := sp_T u7 24) hz7.2.2.2.2.2.1 hd h16 (fun i y z1 z2 => ?_) ?_ (fun y => ?_) (fun y => ?_) (fun y => ?_) (fun y => ?_) (fun y => ?_) (fun y => ?_) (fun y => ?_)) (ho_f (by omega) (by omega)) (ho_f (by omega) (by omega)) (ho_f (by omega) (by omega))
      · rw [e240, h1_at (by omega), h1_at (by omega)]; exact K x y (by omega)
      · unfold sp_T
        rw [e240, h1_at (by omega), h1_at (by omega)]; exact K _ y (by omega)
      · unfold sp_T
        rw [e240, h2_at, if_pos rfl]
      · show ms_I w240 31 y = if y = D 2 then nI s else ms_I u7 31 y
        rw [e240, h1_at (by omega), h1_at (by omega), e220, h1_at (by omega), h1_at (by omega), e204, h1_at (by omega), h1_at (by omega), e188, h1_at (by omega), h2_at]
      · show ms_I w240 32 y = if y = D 2 then nI o else ms_I u7 32 y
        rw [e240, h1_at (by omega), h1_at (by omega), e220, h1_at (by omega), h1_at (by omega), e204, h1_at (by omega), h1_at (by omega), e188, h2_at, h1_at (by omega)]
      · show ms_I w240 33 y = if y = D 2 then nI e else ms_I u7 33 y
        rw [e240, h1_at (by omega), h1_at (by omega), e220, h1_at (by omega), h1_at (by omega), e204, h1_at (by omega), h2_at, e188, h1_at (by omega), h1_at (by omega)]
      · show ms_I w240 34 y = if y = D 2 then nI p else ms_I u7 34 y
        rw [e240, h1_at (by omega), h1_at (by omega), e220, h1_at (by omega), h1_at (by omega), e204, h2_at, h1_at (by omega), e188, h1_at (by omega), h1_at (by omega)]
      · show ms_I w240 35 y = if y = D 2 then nI f else ms_I u7 35 y
        rw [e240, h1_at (by omega), h1_at (by omega), e220, h1_at (by omega), h2_at, e204, h1_at (by omega), h1_at (by omega), e188, h1_at (by omega), h1_at (by omega)]
      · show ms_I w240 36 y = if y = D 2 then nI t else ms_I u7 36 y
        rw [e240, h1_at (by omega), h1_at (by omega), e220, h2_at, h1_at (by omega), e204, h1_at (by omega), h1_at (by omega), e188, h1_at (by omega), h1_at (by omega)]
      · show ms_I w240 37 y = if y = D 2 then nI g else ms_I u7 37 y
        rw [e240, h1_at (by omega), h2_at, e220, h1_at (by omega), h1_at (by omega), e204, h1_at (by omega), h1_at (by omega), e188, h1_at (by omega), h1_at (by omega)]
    refine c_isWord k4 (by decide) B7 hz7.2.1 tk7 ?_
    by_cases cd : pz_wd B N w_dog q7 = true
    · rw [if_pos cd] at hp ⊢
      refine ⟨vn, fun w240 e240 => ⟨vn, ?_⟩⟩
      have e1 : vp_nar .boolean 1 = nI 1 := nar01 (n := 1) (by omega)
      rw [e1, nI_1 (D 2)] at e240
      have hc := fin 1 (by omega) w240 e240
      rw [show ms_I w240 37 (D 2) = nI 1 by rw [e240, h1_at (by omega), h2_at, if_pos rfl]]
      refine ⟨fun z => absurd z (by decide), fun _ => z_word k4 (by decide) hB hc cd (fun u9 hz9 => hp u9 hz9)⟩
    · rw [if_neg cd] at hp ⊢
      refine ⟨vn, fun w240 e240 => ⟨vn, ?_⟩⟩
      have e1 : vp_nar .boolean 0 = nI 0 := nar01 (n := 0) (by omega)
      rw [e1, nI_1 (D 2)] at e240
      have hc := fin 0 (by omega) w240 e240
      rw [show ms_I w240 37 (D 2) = nI 0 by rw [e240, h1_at (by omega), h2_at, if_pos rfl]]
      exact ⟨fun _ => hp w240 hc, fun z => absurd rfl z⟩
  · rw [if_pos (by omega)] at hp
    exact ⟨Or.inl rfl, cs_fail (c := 4) hz.1 rfl hp⟩
theorem cs_wr {r : ms_ZZ} (hp : cs_P u0 B N post r) : cs_P u0 B N (fun r v => (r = 0 ∨ r = 1) ∧ post r v) r := by
  cases r with
  | inl e => exact fun u' h1 h2 h3 => ⟨Or.inl rfl, hp u' h1 h2 h3⟩
  | inr x => exact fun u' h => ⟨Or.inr rfl, hp u' h⟩
theorem tz_u {T T' : Nat → Nat → Int32} {D' : Nat → Nat} (h : tz T D) (hc : D 1 ≤ 12 ∧ D 2 ≤ 16 ∧ D 3 ≤ 3) (k : ∀ i y, ¬ (i = 0 ∧ (y = 1 ∨ y = 2)) → i < 20 → T' i y = T i y) (F : ∀ x, x < 213 → x ≠ 4 → x ≠ 5 → x ≠ 6 → x ≠ 7 → D' x = D x) (e1 : T' 0 1 = nI (D' 4)) (e2 : T' 0 2 = nI (D' 5)) : tz T' D' := by
  have c1 := hc.1
  have c2 := hc.2.1
  have c3 := hc.2.2
  obtain ⟨⟨x0, x1, x2, x3, x4, x5⟩, hs, hh, hw⟩ := h
  refine ⟨⟨?_, e1, e2, ?_, ?_, ?_⟩, fun s z => ?_, fun h z => ?_, fun w z => ?_⟩
  · rw [k 0 0 (by omega) (by omega), F 0 (by omega) (by omega) (by omega) (by omega) (by omega)]; exact x0
  · rw [k 1 0 (by omega) (by omega), F 1 (by omega) (by omega) (by omega) (by omega) (by omega)]; exact x3
  · rw [k 6 0 (by omega) (by omega), F 2 (by omega) (by omega) (by omega) (by omega) (by omega)]; exact x4
  · rw [k 15 0 (by omega) (by omega), F 3 (by omega) (by omega) (by omega) (by omega) (by omega)]; exact x5
  · rw [F 1 (by omega) (by omega) (by omega) (by omega) (by omega)] at z
    rw [k 2 _ (by omega) (by omega), k 3 _ (by omega) (by omega), k 4 _ (by omega) (by omega), k 5 _ (by omega) (by omega), F (8 + 4 * s) (by omega) (by omega) (by omega) (by omega) (by omega), F (8 + 4 * s + 1) (by omega) (by omega) (by omega) (by omega) (by omega), F (8 + 4 * s + 2) (by omega) (by omega) (by omega) (by omega) (by omega)]
    exact hs s z
  · rw [F 2 (by omega) (by omega) (by omega) (by omega) (by omega)] at z
    rw [k 7 _ (by omega) (by omega), k 8 _ (by omega) (by omega), k 9 _ (by omega) (by omega), k 10 _ (by omega) (by omega), k 11 _ (by omega) (by omega), k 12 _ (by omega) (by omega), k 13 _ (by omega) (by omega), F (56 + 7 * h) (by omega) (by omega) (by omega) (by omega) (by omega), F (56 + 7 * h + 1) (by omega) (by omega) (by omega) (by omega) (by omega), F (56 + 7 * h + 2) (by omega) (by omega) (by omega) (by omega) (by omega), F (56 + 7 * h + 3) (by omega) (by omega) (by omega) (by omega) (by omega), F (56 + 7 * h + 4) (by omega) (by omega) (by omega) (by omega) (by omega), F (56 + 7 * h + 5) (by omega) (by omega) (by omega) (by omega) (by omega), F (56 + 7 * h + 6) (by omega) (by omega) (by omega) (by omega) (by omega)]
    exact hh h z
  · rw [F 3 (by omega) (by omega) (by omega) (by omega) (by omega)] at z
    rw [k 16 _ (by omega) (by omega), k 17 _ (by omega) (by omega), k 18 _ (by omega) (by omega), F (168 + 15 * w) (by omega) (by omega) (by omega) (by omega) (by omega), F (168 + 15 * w + 1) (by omega) (by omega) (by omega) (by omega) (by omega)]
    exact hw w z
/-- a mark of the reader -/
theorem cz_mark {b k : Nat} (hz : cz u0 u B N q D l) (hd : pw D l) (hb : b = 5 ∧ k = 2000 ∨ b = 6 ∧ k = 2001 ∨ b = 7 ∧ k = 6) : cz u0 (ms_sI u 23 b 1) B N q (sp_u D k 1) l := by
  obtain ⟨g1, g2, g3, g4, g5, g6, g7, g8, g9⟩ := hz
  have K : ∀ x y, ¬ (x = 23 ∧ y = b) → ms_I (ms_sI u 23 b 1) x y = ms_I u x y := fun x y h => by rw [I_sI, if_neg h]
  have F : ∀ x, x ≠ k → sp_u D k 1 x = D x := fun x h => by rw [u_at, if_neg h]
  have F1 : sp_u D k 1 k = 1 := by rw [u_at, if_pos rfl]
  have K1 : ms_I (ms_sI u 23 b 1) 23 b = nI 1 := by rw [I_sI, if_pos ⟨rfl, rfl⟩]; rfl
  refine ⟨cg_w g1 (by omega), g2, ?_, ?_, ?_, tz_u (T := sp_T u 24) g6 ⟨hd.1.2.2.1, hd.1.2.2.2.1, hd.1.2.2.2.2.1⟩ (fun i y z1 z2 => K _ _ (by omega)) (fun x z1 z2 z3 z4 z5 => F x (by omega)) ?_ ?_, ?_, ?_, ?_⟩
  · unfold tk at g3 ⊢
    rw [K 44 0 (by omega), K 44 1 (by omega), K 44 2 (by omega), K 44 3 (by omega), K 44 4 (by omega), K 44 5 (by omega)]
    exact g3
  · exact ⟨by rw [K 46 1 (by omega)]; exact g4.1, fun i hi => by rw [K 47 i (by omega)]; exact g4.2 i hi⟩
  · rw [K 23 2 (by omega), K 23 1 (by omega)]; exact g5
  · rw [F 4 (by omega)]
    unfold sp_T
    rw [K _ _ (by omega)]
    exact g6.1.2.1
  · rw [F 5 (by omega)]
    unfold sp_T
    rw [K _ _ (by omega)]
    exact g6.1.2.2.1
  · rcases hb with ⟨h1, h2⟩ | ⟨h1, h2⟩ | ⟨h1, h2⟩
    · subst h1; subst h2; rw [K1, F1]
    · rw [K 23 5 (by omega), F 2000 (by omega)]; exact g7
    · rw [K 23 5 (by omega), F 2000 (by omega)]; exact g7
  · rcases hb with ⟨h1, h2⟩ | ⟨h1, h2⟩ | ⟨h1, h2⟩
    · rw [K 23 6 (by omega), F 2001 (by omega)]; exact g8
    · subst h1; subst h2; rw [K1, F1]
    · rw [K 23 6 (by omega), F 2001 (by omega)]; exact g8
  · rcases hb with ⟨h1, h2⟩ | ⟨h1, h2⟩ | ⟨h1, h2⟩
    · rw [K 23 7 (by omega), F 6 (by omega)]; exact g9
    · rw [K 23 7 (by omega), F 6 (by omega)]; exact g9
    · subst h1; subst h2; rw [K1, F1]
/-- a number into the town -/
theorem c_numT {b j hx : Nat} {a2 : Int32} {po : Int32 → ms_St → Prop} (hb : b = 1 ∧ j = 4 ∨ b = 2 ∧ j = 5) (hx1 : hx ≤ 1000) (e2 : a2 = nI hx - 1) (hB : bt_C u0 B N) (hz : cz u0 u B N q D l) (hd : pw D l) (hp : cs_P u0 B N post (pz_nb (pz_n B N q 0 hx) (fun v q' => Sum.inr (q', sp_u D j v, l)))) (h0 : ∀ v, post 0 (ms_sI v 24 b (-1)) → po (-1) v) (h1 : ∀ r v, ¬ r = -1 → post 1 (ms_sI v 24 b r) → po r v) : wp_X3_number ms_E0 u 23 0 a2 po := by
  have hp' : cs_P u0 B N (fun r v => r = 0 → post 0 (ms_sI v 24 b (-1))) (pz_nb (pz_n B N q 0 hx) (fun v q' => Sum.inr (q', sp_u D j v, l))) := by
    cases hS : pz_n B N q 0 hx with
    | inl e =>
      rw [hS] at hp
      intro u' c1 c2 c3 _
      exact hp _ (cg_w c1 (by omega)) (by rw [I_sI, if_neg (by omega)]; exact c2) (by rw [I_sI, if_neg (by omega)]; exact c3)
    | inr x =>
      intro u' _ z
      exact absurd z (by decide)
  refine z_num (lo := 0) hB hz (by omega) (by omega) rfl e2 _ hp' (fun v hv => h0 v (hv rfl)) (fun v q' n1 _ u1 hz1 => ?_)
  have hv := (n_ok hz.2.1 n1).2.2.2.2.1
  rw [n1] at hp
  refine h1 _ _ (NO_ne (by omega)) (hp _ (cz_T hz1 (fun x y z => h1_at (by omega)) rfl (tz_u (T := sp_T u1 24) hz1.2.2.2.2.2.1 ⟨hd.1.2.2.1, hd.1.2.2.2.1, hd.1.2.2.2.2.1⟩ (fun i y z1 z2 => ?_) (fun x z1 z2 z3 z4 z5 => ?_) ?_ ?_) ?_ ?_ ?_))
  · unfold sp_T
    rw [I_sI, if_neg (by omega)]
  · show sp_u D j v x = D x
    rw [u_at, if_neg (by omega)]
  · show ms_I (ms_sI u1 24 b (nI v)) 24 1 = nI (sp_u D j v 4)
    rw [u_at, h2_at]
    rcases hb with ⟨z1, z2⟩ | ⟨z1, z2⟩
    · rw [if_pos z1.symm, if_pos z2.symm]
    · rw [if_neg (by omega), if_neg (by omega)]; exact hz1.2.2.2.2.2.1.1.2.1
  · show ms_I (ms_sI u1 24 b (nI v)) 24 2 = nI (sp_u D j v 5)
    rw [u_at, h2_at]
    rcases hb with ⟨z1, z2⟩ | ⟨z1, z2⟩
    · rw [if_neg (by omega), if_neg (by omega)]; exact hz1.2.2.2.2.2.1.1.2.2.1
    · rw [if_pos z1.symm, if_pos z2.symm]
  · show sp_u D j v 2000 = D 2000
    rw [u_at, if_neg (by omega)]
  · show sp_u D j v 2001 = D 2001
    rw [u_at, if_neg (by omega)]
  · show sp_u D j v 6 = D 6
    rw [u_at, if_neg (by omega)]
theorem c_stmt (hB : bt_C u0 B N) (hz : cz u0 u B N q D l) (hd : pw D l) (hp : cs_P u0 B N post (pz_sm B N q D l)) : wp_X3_statement ms_E0 u 23 post := by
  have hBu := cz_B hB hz
  have a6 := hd.1.2.2.2.2.2.2.2.1
  have a8 := hd.1.2.2.2.2.2.2.2.2.1
  have a9 := hd.1.2.2.2.2.2.2.2.2.2
  obtain ⟨g1, g2, g3, g4, g5, g6, g7, g8, g9⟩ := id hz
  unfold wp_X3_statement wp_X3_statement_113 wp_X3_statement_112 wp_X3_statement_176 wp_X3_statement_175 wp_X3_statement_213 wp_X3_fail
  rw [at_23_0, at_23_3]
  unfold pz_sm at hp
  refine c_isWord k2 (by decide) hBu g2 g3 ?_
  by_cases c1 : pz_wd B N w_street q = true
  · rw [if_pos c1] at hp ⊢
    exact ⟨fun z => absurd z (by decide), fun _ => c_street hB hz hd c1 (cs_wr hp)⟩
  rw [if_neg c1] at hp ⊢
  refine ⟨fun _ => ?_, fun z => absurd rfl z⟩
  refine c_isWord k3 (by decide) hBu g2 g3 ?_
  by_cases c2 : pz_wd B N w_house q = true
  · rw [if_pos c2] at hp ⊢
    exact ⟨fun z => absurd z (by decide), fun _ => c_house hB hz hd c2 (cs_wr hp)⟩
  rw [if_neg c2] at hp ⊢
  refine ⟨fun _ => ?_, fun z => absurd rfl z⟩
  refine c_isWord k5 (by decide) hBu g2 g3 ?_
  by_cases c3 : pz_wd B N w_walker q = true
  · rw [if_pos c3] at hp ⊢
    exact ⟨fun z => absurd z (by decide), fun _ => c_walker hB hz hd c3 (cs_wr hp)⟩
  rw [if_neg c3] at hp ⊢
  refine ⟨fun _ => ?_, fun z => absurd rfl z⟩
  have no : ∀ {w w' : List Nat} (a : Nat), (w = w_cross ∨ w = w_gap ∨ w = w_visit) → (w' = w_cross ∨ w' = w_gap ∨ w' = w_visit) → w ≠ w' → pz_wd B N w q = true → ¬ pz_wd B N w' q = true := by
    intro w w' a h1 h2 h3 h4 h5
    have x1 : ∀ {w : List Nat} {c : Nat} {r : List Nat}, w = c :: r → pz_wd B N w q = true → pz_at B N q = c := by
      intro w c r e h
      rw [e] at h
      unfold pz_wd at h
      simp at h
      exact h.1
    rcases h1 with h1 | h1 | h1 <;> rcases h2 with h2 | h2 | h2 <;> first | exact h3 (h1.trans h2.symm) | (rw [h1] at h4; rw [h2] at h5; have y1 := x1 rfl h4; have y2 := x1 rfl h5; omega)
  refine c_isWord k6 (by decide) hBu g2 g3 ?_
  have hf : cs_P u0 B N post (Sum.inl (2, q)) → post 0 (ms_sI (ms_sI u 23 2 (-2)) 23 1 (ms_I (ms_sI u 23 2 (-2)) 44 1)) := fun h => by
    rw [z_f1 hz]
    exact cs_fail (c := 2) g1 rfl h
  by_cases c4 : pz_wd B N w_cross q = true
  · rw [if_pos c4] at hp ⊢
    have c5 : ¬ pz_wd B N w_gap q = true := no 0 (Or.inl rfl) (Or.inr (Or.inl rfl)) (by decide) c4
    have c6 : ¬ pz_wd B N w_visit q = true := no 0 (Or.inl rfl) (Or.inr (Or.inr rfl)) (by decide) c4
    refine ⟨fun z => absurd z (by decide), fun _ => ?_⟩
    rw [g7]
    refine pk_eq (D 2000) 0 (fun h0 => ?_) (fun h0 => ?_)
    · rw [if_neg (by omega)] at hp
      refine z_word k6 (by decide) hB (cz_mark hz hd (Or.inl ⟨rfl, rfl⟩)) c4 (fun u1 hz1 => ?_)
      refine c_numT (b := 1) (j := 4) (hx := 10) (Or.inl ⟨rfl, rfl⟩) (by omega) rfl hB hz1 (pw_e hd (fun k z1 z2 z3 z4 => ?_) ?_ ?_ ?_ ?_) hp (fun v hv => ?_) (fun r v hr hv => ?_)
      · rw [u_at, if_neg z3]
      · rw [u_at, if_neg (by omega)]; exact hd.1.2.2.2.2.2.1
      · rw [u_at, if_neg (by omega)]; exact hd.1.2.2.2.2.2.2.1
      · rw [u_at, if_pos rfl]; omega
      · rw [u_at, if_neg (by omega)]; exact a9
      · rw [h2_at, if_pos rfl]
        exact ⟨fun _ => ⟨Or.inl rfl, hv⟩, fun z => absurd rfl z⟩
      · rw [h2_at, if_pos rfl]
        exact ⟨fun z => absurd z hr, fun _ => ⟨Or.inr rfl, hv⟩⟩
    · rw [if_pos (by omega)] at hp
      refine c_isWord k7 (by decide) hBu g2 g3 ?_
      rw [if_neg c5]
      refine ⟨fun _ => ?_, fun z => absurd rfl z⟩
      refine c_isWord k8 (by decide) hBu g2 g3 ?_
      rw [if_neg c6]
      exact ⟨fun _ => ⟨Or.inl rfl, hf hp⟩, fun z => absurd rfl z⟩
  rw [if_neg c4] at hp ⊢
  refine ⟨fun _ => ?_, fun z => absurd rfl z⟩
  refine c_isWord k7 (by decide) hBu g2 g3 ?_
  by_cases c5 : pz_wd B N w_gap q = true
  · rw [if_pos c5] at hp ⊢
    have c6 : ¬ pz_wd B N w_visit q = true := no 0 (Or.inr (Or.inl rfl)) (Or.inr (Or.inr rfl)) (by decide) c5
    refine ⟨fun z => absurd z (by decide), fun _ => ?_⟩
    rw [g8]
    refine pk_eq (D 2001) 0 (fun h0 => ?_) (fun h0 => ?_)
    · rw [if_neg (by omega)] at hp
      refine z_word k7 (by decide) hB (cz_mark hz hd (Or.inr (Or.inl ⟨rfl, rfl⟩))) c5 (fun u1 hz1 => ?_)
      refine c_numT (b := 2) (j := 5) (hx := 601) (Or.inr ⟨rfl, rfl⟩) (by omega) rfl hB hz1 (pw_e hd (fun k z1 z2 z3 z4 => ?_) ?_ ?_ ?_ ?_) hp (fun v hv => ?_) (fun r v hr hv => ?_)
      · rw [u_at, if_neg z4]
      · rw [u_at, if_neg (by omega)]; exact hd.1.2.2.2.2.2.1
      · rw [u_at, if_neg (by omega)]; exact hd.1.2.2.2.2.2.2.1
      · rw [u_at, if_neg (by omega)]; exact a8
      · rw [u_at, if_pos rfl]; omega
      · rw [h2_at, if_pos rfl]
        exact ⟨fun _ => ⟨Or.inl rfl, hv⟩, fun z => absurd rfl z⟩
      · rw [h2_at, if_pos rfl]
        exact ⟨fun z => absurd z hr, fun _ => ⟨Or.inr rfl, hv⟩⟩
    · rw [if_pos (by omega)] at hp
      refine c_isWord k8 (by decide) hBu g2 g3 ?_
      rw [if_neg c6]
      exact ⟨fun _ => ⟨Or.inl rfl, hf hp⟩, fun z => absurd rfl z⟩
  rw [if_neg c5] at hp ⊢
  refine ⟨fun _ => ?_, fun z => absurd rfl z⟩
  refine c_isWord k8 (by decide) hBu g2 g3 ?_
  by_cases c6 : pz_wd B N w_visit q = true
  · rw [if_pos c6] at hp ⊢
    refine ⟨fun z => absurd z (by decide), fun _ => ?_⟩
    rw [g9]
    refine pk_eq (D 6) 0 (fun h0 => ?_) (fun h0 => ?_)
    · rw [if_neg (by omega)] at hp
      have hl := (hd.2.2.2.2.2.2.1 h0).1
      refine z_word k8 (by decide) hB (cz_mark hz hd (Or.inr (Or.inr ⟨rfl, rfl⟩))) c6 (fun u1 hz1 => ?_)
      have hp : cs_P u0 B N post (pz_vi B N (pz_s B N (q + 5)) D) := hp
      have hz1 : cz u0 u1 B N (pz_s B N (q + 5)) (sp_u D 6 1) l := hz1
      have cF : ∀ {u' : ms_St}, ce_F u1 u' → cg_F u0 u' := fun h => ⟨fun a b z => (h.1 a b (by omega) (by omega) (by omega) (by omega)).trans (hz1.1.1 a b z), h.2.trans hz1.1.2⟩
      subst hl
      refine c_sumS (u0 := u1) (cz_B hB hz1) 6 0 rfl (by omega) (pz_s B N (q + 5)) [] 0 u1 _ hz1.2.1 (by omega) ⟨rfl, by simp [na]⟩ ⟨⟨fun _ _ _ _ _ _ => rfl, rfl⟩, hz1.2.1, hz1.2.2.1, hz1.2.2.2.1, hz1.2.2.2.2.1.1, rfl⟩ ?_
      unfold pz_vi at hp
      cases hS : pz_S B N 6 0 (pz_s B N (q + 5)) [] with
      | inl e =>
        rw [hS] at hp
        intro u' x1 x2 x3
        exact ⟨Or.inl rfl, hp u' (cF x1) x2 x3⟩
      | inr x =>
        rw [hS] at hp
        intro u' hx
        obtain ⟨x1, x2, x3, x4, x5, x6⟩ := hx
        have G := hz1.2.2.2.2.2.1
        have Fd : ∀ k, k ≠ 6 → k ≠ 7 → (k < 213 ∨ 1900 ≤ k) → dr (sp_u D 6 1) (sp_fl x.2) k = D k := by
          intro k z1 z2 z3
          have hlen : (sp_fl x.2).length ≤ 1400 := by
            obtain ⟨b1, b2, b3, b4, b5⟩ := S_ok 6 0 rfl (by omega) (pz_s B N (q + 5)) [] 0 hz1.2.1 (by omega) ⟨rfl, by simp [na]⟩ x.1 x.2 hS
            have hcnt := wr_cnt _ _ _ b4
            have hlen := fl_len x.2
            have := hB.1
            omega
          unfold dr
          rw [if_neg z2, if_neg (by omega), u_at, if_neg z1]
        have K : ∀ a b, ¬ (a = 44 ∨ a = 47 ∨ a = 46 ∨ (a = 23 ∧ (b = 1 ∨ b = 2))) → ms_I u' a b = ms_I u1 a b := fun a b z => x1.1 a b (by omega) (by omega) (by omega) (by omega)
        have F0 : ∀ k, k ≠ 6 → sp_u D 6 1 k = D k := fun k z => by rw [u_at, if_neg z]
        refine ⟨Or.inr rfl, hp u' ⟨cF x1, x2, x3, x4, ⟨x5, x6.trans hz1.2.2.2.2.1.2⟩, tz_u (T := sp_T u1 24) (D := sp_u D 6 1) G ⟨hd.1.2.2.1, hd.1.2.2.2.1, hd.1.2.2.2.2.1⟩ (fun i y z1 z2 => K _ _ (by omega)) (fun x z1 z2 z3 z4 z5 => (Fd x (by omega) (by omega) (by omega)).trans (F0 x (by omega)).symm) ?_ ?_, ?_, ?_, ?_⟩⟩
        · dsimp only
          rw [show dr (sp_u D 6 1) (sp_fl x.2) 4 = D 4 from Fd 4 (by omega) (by omega) (by omega)]
          unfold sp_T
          rw [K _ _ (by omega)]
          exact G.1.2.1
        · dsimp only
          rw [show dr (sp_u D 6 1) (sp_fl x.2) 5 = D 5 from Fd 5 (by omega) (by omega) (by omega)]
          unfold sp_T
          rw [K _ _ (by omega)]
          exact G.1.2.2.1
        · dsimp only
          rw [show dr (sp_u D 6 1) (sp_fl x.2) 2000 = D 2000 from Fd 2000 (by omega) (by omega) (by omega), K _ _ (by omega)]
          exact hz1.2.2.2.2.2.2.1
        · dsimp only
          rw [show dr (sp_u D 6 1) (sp_fl x.2) 2001 = D 2001 from Fd 2001 (by omega) (by omega) (by omega), K _ _ (by omega)]
          exact hz1.2.2.2.2.2.2.2.1
        · dsimp only
          rw [K _ _ (by omega), hz1.2.2.2.2.2.2.2.2]
          unfold dr
          rw [if_neg (by omega), if_neg (by omega)]
    · rw [if_pos (by omega)] at hp
      exact ⟨Or.inl rfl, hf hp⟩
  · rw [if_neg c6] at hp ⊢
    exact ⟨fun _ => ⟨Or.inl rfl, hf hp⟩, fun z => absurd rfl z⟩
theorem c_loop (hB : bt_C u0 B N) {a2 : Int32} {post : Int32 → ms_St → Prop} : ∀ n i q D l u, cz u0 u B N q D l → pw D l → i ≤ q → N < q + n → cs_P u0 B N (fun r v => wp_X3_read_106 ms_E0 23 1 a2 post v r) (pz_lp B N n q D l) → wp_X3_read_56 ms_E0 23 1 a2 post (n + 1) u 1 (nI i)
  | 0, i, q, D, l, u, hz, hd, hi, hn, hp => by have := hz.2.1; omega
  | n + 1, i, q, D, l, u, hz, hd, hi, hn, hp => by
    have hN := hB.1
    have hqN := hz.2.1
    have tt := hz.2.2.1
    rw [lp_s] at hp
    unfold wp_X3_read_56 wp_X3_read_98 wp_X3_read_99
    rw [at_23_3, nI_1]
    have bad : ∀ v, wp_X3_read_106 ms_E0 23 1 a2 post v 0 → wp_X3_read_56 ms_E0 23 1 a2 post (n + 1) v 0 (nI (i + 1)) := fun v hv => by
      unfold wp_X3_read_56
      exact ⟨fun _ => hv, fun _ => ⟨fun _ => hv, fun z => absurd rfl z⟩⟩
    refine pk_le 900 i (fun h9 => ?_) (fun h9 => ⟨fun z => absurd z (by decide), fun _ => ?_⟩)
    · rw [if_pos (by omega)] at hp
      exact hp u hz
    by_cases hq : N ≤ q
    · rw [if_pos hq] at hp
      exact ⟨fun _ => hp u hz, fun z => absurd (tt.2.2.2.1 hq) z⟩
    · rw [if_neg hq] at hp
      have hne : ¬ ms_I u 44 0 = 0 := by
        by_cases h2 : 48 ≤ pz_at B N q ∧ pz_at B N q ≤ 57
        · rw [(tt.2.2.2.2.1 h2).1]; decide
        · by_cases h3 : 97 ≤ pz_at B N q ∧ pz_at B N q ≤ 122
          · rw [(tt.2.2.2.2.2.1 h3).1]; decide
          · rw [(tt.2.2.2.2.2.2 (by omega) h2 h3).1]; decide
      refine ⟨fun z => absurd z hne, fun _ => c_stmt hB hz hd ?_⟩
      cases hS : pz_sm B N q D l with
      | inl e =>
        rw [hS] at hp
        intro u1 x1 x2 x3
        exact ⟨fun _ => bad _ (hp u1 x1 x2 x3), fun z => absurd rfl z⟩
      | inr x =>
        rw [hS] at hp
        intro u1 hz1
        obtain ⟨y1, y2, y3, y4⟩ := sm_ok hN hqN hd hS
        refine ⟨fun z => absurd z (by decide), fun _ => ?_⟩
        have hp : cs_P u0 B N (fun r v => wp_X3_read_106 ms_E0 23 1 a2 post v r) (pz_zb (pz_sc B N x.1 x.2.1 x.2.2) (pz_lp B N n)) := hp
        unfold pz_sc at hp
        refine c_expect (a := 59) (cz_B hB hz1) y2 hz1.2.2.1 (Or.inr rfl) (fun z => ?_) (fun z u2 hF2 ht2 => ?_)
        · rw [if_neg z] at hp
          exact ⟨fun _ => bad _ (cs_fail (c := 2) hz1.1 rfl hp), fun z => absurd rfl z⟩
        · rw [if_pos z] at hp
          have hlt := (tk_sign hz1.2.2.1 (Or.inr rfl) z).2
          have hge := s_ge (B := B) (p := x.1 + 1) (N := N) (by omega)
          refine ⟨fun z => absurd z (by decide), fun _ => ?_⟩
          exact c_loop hB n (i + 1) (pz_s B N (x.1 + 1)) x.2.1 x.2.2 u2 (cz_adv hz1 (s_le (by omega)) hF2 ht2) y4 (by omega) (by omega) hp
end CH
