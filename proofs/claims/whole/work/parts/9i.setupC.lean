/-! ===== the class reads a setup text ===== -/
def cg_F (u0 u : ms_St) : Prop := (∀ a b, ¬ (23 ≤ a ∧ a ≤ 48) → ms_I u a b = ms_I u0 a b) ∧ ms_J u = ms_J u0
def tz (T : Nat → Nat → Int32) (D : Nat → Nat) : Prop := (T 0 0 = nI (D 0) ∧ T 0 1 = nI (D 4) ∧ T 0 2 = nI (D 5) ∧ T 1 0 = nI (D 1) ∧ T 6 0 = nI (D 2) ∧ T 15 0 = nI (D 3))
  ∧ (∀ s, s < D 1 → T 2 s = nI (D (8 + 4 * s)) ∧ T 3 s = nI (D (8 + 4 * s + 1)) ∧ T 4 s = nI (D (8 + 4 * s + 2)) ∧ T 5 s = 1)
  ∧ (∀ h, h < D 2 → T 7 h = nI (D (56 + 7 * h)) ∧ T 8 h = nI (D (56 + 7 * h + 1)) ∧ T 9 h = nI (D (56 + 7 * h + 2)) ∧ T 10 h = nI (D (56 + 7 * h + 3)) ∧ T 11 h = nI (D (56 + 7 * h + 4)) ∧ T 12 h = nI (D (56 + 7 * h + 5)) ∧ T 13 h = nI (D (56 + 7 * h + 6)))
  ∧ (∀ w, w < D 3 → T 16 w = nI (D (168 + 15 * w)) ∧ T 17 w = nI (D (168 + 15 * w + 1)) ∧ T 18 w = 0)
def cz (u0 u : ms_St) (B : Nat → Nat) (N q : Nat) (D : Nat → Nat) (l : List ms_Op) : Prop := cg_F u0 u ∧ q ≤ N ∧ tk u B N q ∧ codes u l ∧ (ms_I u 23 2 = 0 ∧ ms_I u 23 1 = -1) ∧ tz (sp_T u 24) D ∧ ms_I u 23 5 = nI (D 2000) ∧ ms_I u 23 6 = nI (D 2001) ∧ ms_I u 23 7 = nI (D 6)
def cs_P (u0 : ms_St) (B : Nat → Nat) (N : Nat) (post : Int32 → ms_St → Prop) : ms_ZZ → Prop
  | Sum.inl e => ∀ u', cg_F u0 u' → ms_I u' 23 2 = er e.1 → ms_I u' 23 1 = nI e.2 → post 0 u'
  | Sum.inr x => ∀ u', cz u0 u' B N x.1 x.2.1 x.2.2 → post 1 u'
theorem tz_eq {T T' : Nat → Nat → Int32} {D : Nat → Nat} (h : ∀ i b, i < 20 → T' i b = T i b) (hR : tz T D) : tz T' D := by
  unfold tz at *
  simp only [h _ _ (show 0 < 20 by omega), h _ _ (show 1 < 20 by omega), h _ _ (show 2 < 20 by omega), h _ _ (show 3 < 20 by omega), h _ _ (show 4 < 20 by omega), h _ _ (show 5 < 20 by omega), h _ _ (show 6 < 20 by omega), h _ _ (show 7 < 20 by omega), h _ _ (show 8 < 20 by omega), h _ _ (show 9 < 20 by omega), h _ _ (show 10 < 20 by omega), h _ _ (show 11 < 20 by omega), h _ _ (show 12 < 20 by omega), h _ _ (show 13 < 20 by omega), h _ _ (show 15 < 20 by omega), h _ _ (show 16 < 20 by omega), h _ _ (show 17 < 20 by omega), h _ _ (show 18 < 20 by omega)]
  exact hR
section CS
variable {B : Nat → Nat} {N q : Nat} {D : Nat → Nat} {l : List ms_Op} {u u0 : ms_St} {pv : ms_St → Prop} {post : Int32 → ms_St → Prop}
theorem cg_B (hF : cg_F u0 u) (hB : bt_C u0 B N) : bt_C u B N := ⟨hB.1, fun k hk => by rw [hF.1 1 k (by omega)]; exact hB.2 k hk⟩
theorem cg_fr {c : Nat} {u1 : ms_St} (hF : cg_F u0 u) (h : fr c u u1) (hc : 23 ≤ c ∧ c ≤ 48) : cg_F u0 u1 := ⟨fun a b z => (h.1 a b (by omega)).trans (hF.1 a b z), h.2.trans hF.2⟩
theorem cg_w {c b : Nat} {v : Int32} (hF : cg_F u0 u) (hc : 23 ≤ c ∧ c ≤ 48) : cg_F u0 (ms_sI u c b v) := ⟨fun a b z => by rw [I_sI, if_neg (by omega)]; exact hF.1 a b z, hF.2⟩
theorem cs_fail {c : Nat} {z : Int32} (hF : cg_F u0 u) (hz : z = er c) (hp : cs_P u0 B N post (Sum.inl (c, q))) : post 0 (ms_sI (ms_sI u 23 2 z) 23 1 (nI q)) := by
  refine hp _ (cg_w (cg_w hF (by omega)) (by omega)) ?_ ?_
  · rw [I_sI, if_neg (by omega), I_sI, if_pos ⟨rfl, rfl⟩, hz]
  · rw [I_sI, if_pos ⟨rfl, rfl⟩]
theorem cz_adv {u1 : ms_St} {q1 : Nat} (hx : cz u0 u B N q D l) (hq : q1 ≤ N) (h : fr 44 u u1) (ht : tk u1 B N q1) : cz u0 u1 B N q1 D l := by
  obtain ⟨a, b, c, d, e, f, g1, g2, g3⟩ := hx
  exact ⟨cg_fr a h (by omega), hq, ht, codes_fr h d, by rw [h.1 23 2 (by omega), h.1 23 1 (by omega)]; exact e, tz_eq (fun i b hi => h.1 _ b (by omega)) f, by rw [h.1 23 5 (by omega)]; exact g1, by rw [h.1 23 6 (by omega)]; exact g2, by rw [h.1 23 7 (by omega)]; exact g3⟩
theorem cz_B (hB : bt_C u0 B N) (hx : cz u0 u B N q D l) : bt_C u B N := cg_B hx.1 hB
/-- a number, its error told at once -/
theorem z_num {lo hx : Nat} {a1 a2 : Int32} (hB : bt_C u0 B N) (hz : cz u0 u B N q D l) (hlo : lo ≤ 100000) (hhx : hx ≤ 100000) (e1 : a1 = nI lo) (e2 : a2 = nI hx - 1) (k : Nat → Nat → ms_ZZ) (hp : cs_P u0 B N (fun r v => post r v) (pz_nb (pz_n B N q lo hx) k)) {po : Int32 → ms_St → Prop} (hno : ∀ v, post 0 v → po (-1) v) (hok : ∀ v q', pz_n B N q lo hx = Sum.inr (v, q') → cs_P u0 B N post (k v q') → ∀ u', cz u0 u' B N q' D l → po (nI v) u') : wp_X3_number ms_E0 u 23 a1 a2 po := by
  have hBu := cz_B hB hz
  refine c_number hBu hz.2.1 hz.2.2.1 hlo hhx e1 e2 (fun c e => ?_) (fun v q' e u1 hF1 ht1 => ?_)
  · rw [e] at hp
    exact hno _ (cs_fail hz.1 rfl hp)
  · rw [e] at hp
    exact hok v q' e hp u1 (cz_adv hz (n_ok hz.2.1 e).2.1 hF1 ht1)
/-- behind a word -/
theorem z_word {o : Nat} {w : List Nat} (hk : wk o w) (hl : 0 < w.length) (hB : bt_C u0 B N) (hz : cz u0 u B N q D l) (hw : pz_wd B N w q = true) (hp : ∀ u1, cz u0 u1 B N (pz_s B N (q + w.length)) D l → pv u1) : wp_X6_advance ms_E0 u 44 pv := by
  obtain ⟨h5, hle⟩ := tk_word hz.2.2.1 hz.2.1 (wk_mem hk) hl hw
  exact c_advance (cz_B hB hz) hle hz.2.2.1.2.1 hz.2.2.1.2.2.1 h5 (fun u1 hF1 ht1 => hp u1 (cz_adv hz (s_le hle) hF1 ht1))
theorem z_f1 (hz : cz u0 u B N q D l) {z : Int32} : ms_I (ms_sI u 23 2 z) 44 1 = nI q := t1_w hz.2.2.1
/-! streets -/
theorem c_addS {n : Nat} {a b c : Int32} (hn : n < 12) (e0 : ms_I u 25 0 = nI n) (hp : ∀ u', (∀ x y, ¬ (25 ≤ x ∧ x ≤ 29) → ms_I u' x y = ms_I u x y) → ms_J u' = ms_J u → ms_I u' 25 0 = nI (n + 1) → (∀ y, ms_I u' 26 y = if y = n then a else ms_I u 26 y) → (∀ y, ms_I u' 27 y = if y = n then b else ms_I u 27 y) → (∀ y, ms_I u' 28 y = if y = n then c else ms_I u 28 y) → (∀ y, ms_I u' 29 y = if y = n then 1 else ms_I u 29 y) → pv u') : wp_X5_add ms_E0 u 25 a b c pv := by
  have vn : vp_in (nI n) 12 := vp_in_nI hn (by omega)
  unfold wp_X5_add wp_X5_add_59
  have f1 : ms_I (ms_sI u 26 n a) 25 0 = nI n := by rw [I_sI, if_neg (by omega)]; exact e0
  rw [e0, at_25_1, at_25_2, at_25_3, at_25_4, nI_clamp (by omega), f1, nI_clamp (by omega)]
  refine ⟨fun z => absurd z (nI_ge (b := 12) hn (by decide)), fun _ => ⟨vn, vn, fun w28 e28 => ?_⟩⟩
  have f2 : ms_I w28 25 0 = nI n := by rw [e28, I_sI, if_neg (by omega)]; exact f1
  rw [f2, nI_clamp (by omega)]
  have f3 : ms_I (ms_sI w28 28 n c) 25 0 = nI n := by rw [I_sI, if_neg (by omega)]; exact f2
  rw [f3, nI_clamp (by omega)]
  refine ⟨vn, vn, fun w48 e48 => ?_⟩
  have f4 : ms_I w48 25 0 + 1 = nI (n + 1) := by rw [e48, I_sI, if_neg (by omega), f3, nI_1]
  rw [f4]
  have e1 : vp_nar .boolean 1 = 1 := nar01 (n := 1) (by omega)
  rw [e1] at e48
  refine hp _ (fun x y z => ?_) (by rw [e48, e28]; rfl) (by rw [I_sI, if_pos ⟨rfl, rfl⟩]) (fun y => ?_) (fun y => ?_) (fun y => ?_) (fun y => ?_)
  · rw [I_sI, if_neg (by omega), e48, I_sI, if_neg (by omega), I_sI, if_neg (by omega), e28, I_sI, if_neg (by omega), I_sI, if_neg (by omega)]
  · rw [I_sI, if_neg (by omega), e48, I_sI, if_neg (by omega), I_sI, if_neg (by omega), e28, I_sI, if_neg (by omega), I_sI]
    by_cases q : y = n
    · rw [if_pos ⟨rfl, q⟩, if_pos q]
    · rw [if_neg (by omega), if_neg q]
  · rw [I_sI, if_neg (by omega), e48, I_sI, if_neg (by omega), I_sI, if_neg (by omega), e28, I_sI]
    by_cases q : y = n
    · rw [if_pos ⟨rfl, q⟩, if_pos q]
    · rw [if_neg (by omega), if_neg q, I_sI, if_neg (by omega)]
  · rw [I_sI, if_neg (by omega), e48, I_sI, if_neg (by omega), I_sI]
    by_cases q : y = n
    · rw [if_pos ⟨rfl, q⟩, if_pos q]
    · rw [if_neg (by omega), if_neg q, e28, I_sI, if_neg (by omega), I_sI, if_neg (by omega)]
  · rw [I_sI, if_neg (by omega), e48, I_sI]
    by_cases q : y = n
    · rw [if_pos ⟨rfl, q⟩, if_pos q]
    · rw [if_neg (by omega), if_neg q, I_sI, if_neg (by omega), e28, I_sI, if_neg (by omega), I_sI, if_neg (by omega)]
theorem tz_st {T T' : Nat → Nat → Int32} {a b c : Nat} (h : tz T D) (hd : pw D l) (h1 : D 1 < 12) (e : ∀ i y, ¬ (1 ≤ i ∧ i ≤ 5) → i < 20 → T' i y = T i y) (e1 : T' 1 0 = nI (D 1 + 1)) (e2 : ∀ y, T' 2 y = if y = D 1 then nI a else T 2 y) (e3 : ∀ y, T' 3 y = if y = D 1 then nI b else T 3 y) (e4 : ∀ y, T' 4 y = if y = D 1 then nI c else T 4 y) (e5 : ∀ y, T' 5 y = if y = D 1 then 1 else T 5 y) : tz T' (st_D D a b c) := by
  obtain ⟨⟨x0, x1, x2, x3, x4, x5⟩, hs, hh, hw⟩ := h
  have c2 := hd.1.2.2.2.1
  have f : ∀ k, k ≠ 1 → (k < 8 ∨ 56 ≤ k) → st_D D a b c k = D k := fun k z z2 => st_f z (by omega) (by omega) (by omega)
  refine ⟨⟨?_, ?_, ?_, ?_, ?_, ?_⟩, fun s z => ?_, fun h z => ?_, fun w z => ?_⟩
  · rw [e 0 0 (by omega) (by omega), f 0 (by omega) (by omega)]; exact x0
  · rw [e 0 1 (by omega) (by omega), f 4 (by omega) (by omega)]; exact x1
  · rw [e 0 2 (by omega) (by omega), f 5 (by omega) (by omega)]; exact x2
  · rw [e1, st_1]
  · rw [e 6 0 (by omega) (by omega), f 2 (by omega) (by omega)]; exact x4
  · rw [e 15 0 (by omega) (by omega), f 3 (by omega) (by omega)]; exact x5
  · rw [st_1] at z
    rw [e2, e3, e4, e5]
    by_cases q : s = D 1
    · rw [if_pos q, if_pos q, if_pos q, if_pos q, q, st_a, st_b, st_c]; exact ⟨rfl, rfl, rfl, rfl⟩
    · rw [if_neg q, if_neg q, if_neg q, if_neg q, st_f (k := 8 + 4 * s) (by omega) (by omega) (by omega) (by omega), st_f (k := 8 + 4 * s + 1) (by omega) (by omega) (by omega) (by omega), st_f (k := 8 + 4 * s + 2) (by omega) (by omega) (by omega) (by omega)]
      exact hs s (by omega)
  · rw [f 2 (by omega) (by omega)] at z
    rw [e 7 _ (by omega) (by omega), e 8 _ (by omega) (by omega), e 9 _ (by omega) (by omega), e 10 _ (by omega) (by omega), e 11 _ (by omega) (by omega), e 12 _ (by omega) (by omega), e 13 _ (by omega) (by omega), f (56 + 7 * h) (by omega) (by omega), f (56 + 7 * h + 1) (by omega) (by omega), f (56 + 7 * h + 2) (by omega) (by omega), f (56 + 7 * h + 3) (by omega) (by omega), f (56 + 7 * h + 4) (by omega) (by omega), f (56 + 7 * h + 5) (by omega) (by omega), f (56 + 7 * h + 6) (by omega) (by omega)]
    exact hh h z
  · rw [f 3 (by omega) (by omega)] at z
    rw [e 16 _ (by omega) (by omega), e 17 _ (by omega) (by omega), e 18 _ (by omega) (by omega), f (168 + 15 * w) (by omega) (by omega), f (168 + 15 * w + 1) (by omega) (by omega)]
    exact hw w z
theorem c_street (hB : bt_C u0 B N) (hz : cz u0 u B N q D l) (hd : pw D l) (hw : pz_wd B N w_street q = true) (hp : cs_P u0 B N post (if D 1 = 12 then Sum.inl (4, q) else pz_st B N (pz_s B N (q + 6)) D l)) : wp_X3_street ms_E0 u 23 post := by
  have c0 := hd.1.2.1
  have c1 := hd.1.2.2.1
  have e25 : ms_I u 25 0 = nI (D 1) := hz.2.2.2.2.2.1.1.2.2.2.1
  unfold wp_X3_street wp_X3_street_80 wp_X3_street_111 wp_X3_fail
  rw [at_23_0, at_24_3, at_23_3, e25, z_f1 hz]
  refine pk_lt (D 1) 12 (fun h12 => ?_) (fun h12 => ?_)
  · rw [if_neg (by omega)] at hp
    refine z_word k2 (by decide) hB hz hw (fun u1 hz1 => ?_)
    have e24 : ∀ {v : ms_St} {q' : Nat}, cz u0 v B N q' D l → ms_I v 24 0 = nI (D 0) := fun h => h.2.2.2.2.2.1.1.1
    rw [e24 hz1]
    unfold pz_st at hp
    refine z_num (post := post) hB hz1 (by omega) (by omega) rfl rfl _ hp (fun v hv => ⟨fun _ => hv, fun z => absurd rfl z⟩) (fun a q2 n1 hp u2 hz2 => ⟨fun z => absurd z (NO_ne (by have := (n_ok hz1.2.1 n1).2.2.2.2.1; omega)), fun _ => ?_⟩)
    have ha := (n_ok hz1.2.1 n1).2.2.2.2.1
    have go : ¬ (pz_n B N q2 0 (D 0) = Sum.inr (a, (pz_s B N (pz_nd B N q2 0).1))) → wp_X3_number ms_E0 u2 23 0 (ms_I u2 24 0 - 1) (fun r91 u91 => (r91 = (-1) → (((-1 : Int32) = (-1) → post 0 u91) ∧ (¬ (-1 : Int32) = (-1) → wp_X5_add ms_E0 u91 25 (nI a) r91 (-1) (fun u129 => post 1 u129)))) ∧ (¬ r91 = (-1) → wp_X3_number ms_E0 u91 23 1 99 (fun r108 u108 => (r108 = (-1) → post 0 u108) ∧ (¬ r108 = (-1) → wp_X5_add ms_E0 u108 25 (nI a) r91 r108 (fun u129 => post 1 u129))))) := by
      intro hne
      rw [e24 hz2]
      refine z_num (post := post) hB hz2 (by omega) (by omega) rfl rfl _ hp (fun v hv => ⟨fun _ => ⟨fun _ => hv, fun z => absurd rfl z⟩, fun z => absurd rfl z⟩) (fun b q3 n2 hp u3 hz3 => ⟨fun z => absurd z (NO_ne (by have := (n_ok hz2.2.1 n2).2.2.2.2.1; omega)), fun _ => ?_⟩)
      obtain ⟨y1, y2, y3, y4, y5, y6, y7, y8⟩ := n_ok hz2.2.1 n2
      have hba : ¬ b = a := by
        intro z
        rw [z, y8] at n2
        exact hne n2
      rw [if_neg hba] at hp
      refine z_num (post := post) hB hz3 (by omega) (by omega) rfl rfl _ hp (fun v hv => ⟨fun _ => hv, fun z => absurd rfl z⟩) (fun c q4 n3 hp u4 hz4 => ⟨fun z => absurd z (NO_ne (by have := (n_ok hz3.2.1 n3).2.2.2.2.1; omega)), fun _ => ?_⟩)
      obtain ⟨g1, g2, g3, g4, g5, g6, g7, g8, g9⟩ := hz4
      refine c_addS h12 g6.1.2.2.2.1 (fun u5 k5 j5 s0 s1 s2 s3 s4 => hp u5 ⟨⟨fun a b z => ?_, j5.trans g1.2⟩, g2, ?_, ?_, ?_, tz_st (T := sp_T u4 24) g6 hd h12 (fun i y h1 h2 => k5 _ y (by omega)) s0 s1 s2 s3 s4, ?_, ?_, ?_⟩)
      · rw [k5 a b (by omega)]; exact g1.1 a b z
      · unfold tk at g3 ⊢
        rw [k5 44 0 (by omega), k5 44 1 (by omega), k5 44 2 (by omega), k5 44 3 (by omega), k5 44 4 (by omega), k5 44 5 (by omega)]
        exact g3
      · exact ⟨by rw [k5 46 1 (by omega)]; exact g4.1, fun i hi => by rw [k5 47 i (by omega)]; exact g4.2 i hi⟩
      · rw [k5 23 2 (by omega), k5 23 1 (by omega)]; exact g5
      · show ms_I u5 23 5 = nI (st_D D a b c 2000)
        rw [k5 23 5 (by omega), st_f (by omega) (by omega) (by omega) (by omega)]; exact g7
      · show ms_I u5 23 6 = nI (st_D D a b c 2001)
        rw [k5 23 6 (by omega), st_f (by omega) (by omega) (by omega) (by omega)]; exact g8
      · show ms_I u5 23 7 = nI (st_D D a b c 6)
        rw [k5 23 7 (by omega), st_f (by omega) (by omega) (by omega) (by omega)]; exact g9
    have tt := hz2.2.2.1
    rw [z_f1 hz2]
    by_cases cd : 48 ≤ pz_at B N q2 ∧ pz_at B N q2 ≤ 57
    · obtain ⟨d0, d5, x, d2, hr⟩ := tt.2.2.2.2.1 cd
      have hv : (pz_nd B N q2 0).2 < 100000 ∨ 100000 ≤ (pz_nd B N q2 0).2 := by omega
      have hx6 : x ≤ 1000000 := by
        rcases hv with z | z
        · have := hr.1 z; omega
        · exact (hr.2 z).2
      rw [d0, d2]
      refine ⟨fun _ => pk_eq x a (fun exa => ?_) (fun exa => go (fun z => ?_)), fun z => absurd rfl z⟩
      · have hva : (pz_nd B N q2 0).2 = a := by
          rcases hv with z | z
          · rw [← hr.1 z]; exact exa
          · have := (hr.2 z).1; omega
        have e : pz_n B N q2 0 (D 0) = Sum.inr (a, pz_s B N (pz_nd B N q2 0).1) := by
          unfold pz_n
          rw [if_pos cd, hva, if_pos (by omega)]
        rw [e] at hp
        have hp : cs_P u0 B N post (if a = a then Sum.inl (3, q2) else _) := hp
        rw [if_pos rfl] at hp
        exact ⟨Or.inl rfl, cs_fail (c := 3) hz2.1 rfl hp⟩
      · obtain ⟨y1, y2, y3, y4, y5, y6, y7, y8⟩ := n_ok hz2.2.1 z
        rcases hv with w | w
        · have := hr.1 w; omega
        · omega
    · have hne : ¬ ms_I u2 44 0 = 1 := by
        by_cases h1 : N ≤ q2
        · rw [tt.2.2.2.1 h1]; decide
        · by_cases h3 : 97 ≤ pz_at B N q2 ∧ pz_at B N q2 ≤ 122
          · rw [(tt.2.2.2.2.2.1 h3).1]; decide
          · rw [(tt.2.2.2.2.2.2 (by omega) cd h3).1]; decide
      exact ⟨fun z => absurd z hne, fun _ => go (fun z => cd (n_ok hz2.2.1 z).2.2.2.2.2.1)⟩
  · rw [if_pos (by omega)] at hp
    exact ⟨Or.inl rfl, cs_fail (c := 4) hz.1 rfl hp⟩
/-! walkers -/
theorem c_addW {n : Nat} {a b : Int32} (hn : n < 3) (e0 : ms_I u 39 0 = nI n) (hp : ∀ u', (∀ x y, ¬ (39 ≤ x ∧ x ≤ 42) → ms_I u' x y = ms_I u x y) → ms_J u' = ms_J u → ms_I u' 39 0 = nI (n + 1) → (∀ y, ms_I u' 40 y = if y = n then a else ms_I u 40 y) → (∀ y, ms_I u' 41 y = if y = n then b else ms_I u 41 y) → (∀ y, ms_I u' 42 y = if y = n then 0 else ms_I u 42 y) → pv u') : wp_X9_add ms_E0 u 39 a b pv := by
  have vn : vp_in (nI n) 3 := vp_in_nI hn (by omega)
  unfold wp_X9_add wp_X9_add_48
  have f1 : ms_I (ms_sI u 40 n a) 39 0 = nI n := by rw [I_sI, if_neg (by omega)]; exact e0
  rw [e0, at_39_1, at_39_2, at_39_3, nI_clamp (by omega), f1, nI_clamp (by omega)]
  refine ⟨fun z => absurd z (nI_ge (b := 3) hn (by decide)), fun _ => ⟨vn, vn, fun w27 e27 => ?_⟩⟩
  have f2 : ms_I w27 39 0 = nI n := by rw [e27, I_sI, if_neg (by omega)]; exact f1
  rw [f2, nI_clamp (by omega)]
  have f3 : ms_I (ms_sI w27 42 n 0) 39 0 + 1 = nI (n + 1) := by rw [I_sI, if_neg (by omega), f2, nI_1]
  rw [f3]
  refine ⟨vn, fun w45 e45 => ?_⟩
  refine hp w45 (fun x y z => ?_) (by rw [e45, e27]; rfl) (by rw [e45, I_sI, if_pos ⟨rfl, rfl⟩]) (fun y => ?_) (fun y => ?_) (fun y => ?_)
  · rw [e45, I_sI, if_neg (by omega), I_sI, if_neg (by omega), e27, I_sI, if_neg (by omega), I_sI, if_neg (by omega)]
  · rw [e45, I_sI, if_neg (by omega), I_sI, if_neg (by omega), e27, I_sI, if_neg (by omega), I_sI]
    by_cases q : y = n
    · rw [if_pos ⟨rfl, q⟩, if_pos q]
    · rw [if_neg (by omega), if_neg q]
  · rw [e45, I_sI, if_neg (by omega), I_sI, if_neg (by omega), e27, I_sI]
    by_cases q : y = n
    · rw [if_pos ⟨rfl, q⟩, if_pos q]
    · rw [if_neg (by omega), if_neg q, I_sI, if_neg (by omega)]
  · rw [e45, I_sI, if_neg (by omega), I_sI]
    by_cases q : y = n
    · rw [if_pos ⟨rfl, q⟩, if_pos q]
    · rw [if_neg (by omega), if_neg q, e27, I_sI, if_neg (by omega), I_sI, if_neg (by omega)]
theorem tz_wa {T T' : Nat → Nat → Int32} {c t : Nat} (h : tz T D) (hd : pw D l) (h3 : D 3 < 3) (e : ∀ i y, ¬ (15 ≤ i ∧ i ≤ 18) → i < 20 → T' i y = T i y) (e1 : T' 15 0 = nI (D 3 + 1)) (e2 : ∀ y, T' 16 y = if y = D 3 then nI c else T 16 y) (e3 : ∀ y, T' 17 y = if y = D 3 then nI t else T 17 y) (e4 : ∀ y, T' 18 y = if y = D 3 then 0 else T 18 y) : tz T' (wa_D D c t) := by
  obtain ⟨⟨x0, x1, x2, x3, x4, x5⟩, hs, hh, hw⟩ := h
  have c1 := hd.1.2.2.1
  have c2 := hd.1.2.2.2.1
  have f : ∀ k, k ≠ 3 → k < 168 → wa_D D c t k = D k := fun k z z2 => wa_f z (by omega) (by omega)
  refine ⟨⟨?_, ?_, ?_, ?_, ?_, ?_⟩, fun s z => ?_, fun h z => ?_, fun w z => ?_⟩
  · rw [e 0 0 (by omega) (by omega), f 0 (by omega) (by omega)]; exact x0
  · rw [e 0 1 (by omega) (by omega), f 4 (by omega) (by omega)]; exact x1
  · rw [e 0 2 (by omega) (by omega), f 5 (by omega) (by omega)]; exact x2
  · rw [e 1 0 (by omega) (by omega), f 1 (by omega) (by omega)]; exact x3
  · rw [e 6 0 (by omega) (by omega), f 2 (by omega) (by omega)]; exact x4
  · rw [e1, wa_3]
  · rw [f 1 (by omega) (by omega)] at z
    rw [e 2 _ (by omega) (by omega), e 3 _ (by omega) (by omega), e 4 _ (by omega) (by omega), e 5 _ (by omega) (by omega), f (8 + 4 * s) (by omega) (by omega), f (8 + 4 * s + 1) (by omega) (by omega), f (8 + 4 * s + 2) (by omega) (by omega)]
    exact hs s z
  · rw [f 2 (by omega) (by omega)] at z
    rw [e 7 _ (by omega) (by omega), e 8 _ (by omega) (by omega), e 9 _ (by omega) (by omega), e 10 _ (by omega) (by omega), e 11 _ (by omega) (by omega), e 12 _ (by omega) (by omega), e 13 _ (by omega) (by omega), f (56 + 7 * h) (by omega) (by omega), f (56 + 7 * h + 1) (by omega) (by omega), f (56 + 7 * h + 2) (by omega) (by omega), f (56 + 7 * h + 3) (by omega) (by omega), f (56 + 7 * h + 4) (by omega) (by omega), f (56 + 7 * h + 5) (by omega) (by omega), f (56 + 7 * h + 6) (by omega) (by omega)]
    exact hh h z
  · rw [wa_3] at z
    rw [e2, e3, e4]
    by_cases q : w = D 3
    · rw [if_pos q, if_pos q, if_pos q, q, wa_c, wa_t]; exact ⟨rfl, rfl, rfl⟩
    · rw [if_neg q, if_neg q, if_neg q, wa_f (k := 168 + 15 * w) (by omega) (by omega) (by omega), wa_f (k := 168 + 15 * w + 1) (by omega) (by omega) (by omega)]
      exact hw w (by omega)
theorem c_walker (hB : bt_C u0 B N) (hz : cz u0 u B N q D l) (hd : pw D l) (hw : pz_wd B N w_walker q = true) (hp : cs_P u0 B N post (if D 3 = 3 then Sum.inl (4, q) else pz_wa B N (pz_s B N (q + 6)) D l)) : wp_X3_walker ms_E0 u 23 post := by
  have c0 := hd.1.2.1
  have c3 := hd.1.2.2.2.2.1
  have e39 : ms_I u 39 0 = nI (D 3) := hz.2.2.2.2.2.1.1.2.2.2.2.2
  unfold wp_X3_walker wp_X3_walker_60 wp_X3_fail
  rw [at_23_0, at_24_5, at_23_3, e39, z_f1 hz]
  refine pk_lt (D 3) 3 (fun h3 => ?_) (fun h3 => ?_)
  · rw [if_neg (by omega)] at hp
    refine z_word k5 (by decide) hB hz hw (fun u1 hz1 => ?_)
    rw [show ms_I u1 24 0 = nI (D 0) from hz1.2.2.2.2.2.1.1.1]
    unfold pz_wa at hp
    refine z_num (post := post) hB hz1 (by omega) (by omega) rfl rfl _ hp (fun v hv => ⟨fun _ => ⟨fun _ => hv, fun z => absurd rfl z⟩, fun z => absurd rfl z⟩) (fun c q2 n1 hp u2 hz2 => ⟨fun z => absurd z (NO_ne (by have := (n_ok hz1.2.1 n1).2.2.2.2.1; omega)), fun _ => ?_⟩)
    refine z_num (post := post) (lo := 0) (hx := 1441) hB hz2 (by omega) (by omega) rfl rfl _ hp (fun v hv => ⟨fun _ => hv, fun z => absurd rfl z⟩) (fun t q3 n2 hp u3 hz3 => ⟨fun z => absurd z (NO_ne (by have := (n_ok hz2.2.1 n2).2.2.2.2.1; omega)), fun _ => ?_⟩)
    obtain ⟨g1, g2, g3, g4, g5, g6, g7, g8, g9⟩ := hz3
    refine c_addW h3 g6.1.2.2.2.2.2 (fun u5 k5 j5 s0 s1 s2 s3 => hp u5 ⟨⟨fun a b z => ?_, j5.trans g1.2⟩, g2, ?_, ?_, ?_, tz_wa (T := sp_T u3 24) g6 hd h3 (fun i y h1 h2 => k5 _ y (by omega)) s0 s1 s2 s3, ?_, ?_, ?_⟩)
    · rw [k5 a b (by omega)]; exact g1.1 a b z
    · unfold tk at g3 ⊢
      rw [k5 44 0 (by omega), k5 44 1 (by omega), k5 44 2 (by omega), k5 44 3 (by omega), k5 44 4 (by omega), k5 44 5 (by omega)]
      exact g3
    · exact ⟨by rw [k5 46 1 (by omega)]; exact g4.1, fun i hi => by rw [k5 47 i (by omega)]; exact g4.2 i hi⟩
    · rw [k5 23 2 (by omega), k5 23 1 (by omega)]; exact g5
    · show ms_I u5 23 5 = nI (wa_D D c t 2000)
      rw [k5 23 5 (by omega), wa_f (by omega) (by omega) (by omega)]; exact g7
    · show ms_I u5 23 6 = nI (wa_D D c t 2001)
      rw [k5 23 6 (by omega), wa_f (by omega) (by omega) (by omega)]; exact g8
    · show ms_I u5 23 7 = nI (wa_D D c t 6)
      rw [k5 23 7 (by omega), wa_f (by omega) (by omega) (by omega)]; exact g9
  · rw [if_pos (by omega)] at hp
    exact ⟨Or.inl rfl, cs_fail (c := 4) hz.1 rfl hp⟩
end CS
