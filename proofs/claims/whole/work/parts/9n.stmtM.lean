/-! ===== the reference reads a statement ===== -/
theorem ob0 {a b c : Nat} (ha : a ≤ 1) (hb : b ≤ 1) (hc : c ≤ 1) : ((nI (a + 2 * b + 4 * c) >>> ((0 : Int32) &&& 31)) &&& 1 : Int32) = nI a ∧ (nI (a + 2 * b + 4 * c) ||| ((1 : Int32) <<< ((0 : Int32) &&& 31)) : Int32) = nI (1 + 2 * b + 4 * c) := by
  have ha : a = 0 ∨ a = 1 := by omega
  have hb : b = 0 ∨ b = 1 := by omega
  have hc : c = 0 ∨ c = 1 := by omega
  rcases ha with rfl | rfl <;> rcases hb with rfl | rfl <;> rcases hc with rfl | rfl <;> decide
theorem ob1 {a b c : Nat} (ha : a ≤ 1) (hb : b ≤ 1) (hc : c ≤ 1) : ((nI (a + 2 * b + 4 * c) >>> ((1 : Int32) &&& 31)) &&& 1 : Int32) = nI b ∧ (nI (a + 2 * b + 4 * c) ||| ((1 : Int32) <<< ((1 : Int32) &&& 31)) : Int32) = nI (a + 2 * 1 + 4 * c) := by
  have ha : a = 0 ∨ a = 1 := by omega
  have hb : b = 0 ∨ b = 1 := by omega
  have hc : c = 0 ∨ c = 1 := by omega
  rcases ha with rfl | rfl <;> rcases hb with rfl | rfl <;> rcases hc with rfl | rfl <;> decide
theorem ob2 {a b c : Nat} (ha : a ≤ 1) (hb : b ≤ 1) (hc : c ≤ 1) : ((nI (a + 2 * b + 4 * c) >>> ((2 : Int32) &&& 31)) &&& 1 : Int32) = nI c ∧ (nI (a + 2 * b + 4 * c) ||| ((1 : Int32) <<< ((2 : Int32) &&& 31)) : Int32) = nI (a + 2 * b + 4 * 1) := by
  have ha : a = 0 ∨ a = 1 := by omega
  have hb : b = 0 ∨ b = 1 := by omega
  have hc : c = 0 ∨ c = 1 := by omega
  rcases ha with rfl | rfl <;> rcases hb with rfl | rfl <;> rcases hc with rfl | rfl <;> decide
section MT
variable {B : Nat → Nat} {N q : Nat} {D : Nat → Nat} {l : List ms_Op} {u u0 : ms_St} {pv : ms_St → Prop} {post : Int32 → ms_St → Prop} {e : Nat × Nat} {a1 a2 : Int32}
theorem m_houseR {r1 : Nat} (hB : bt_M u0 B N) (hz : mz u0 u B N r1 D) (hd : pw D l) (hp : mq_P u0 B N pv (if D 2 = 16 then Sum.inl (4, q) else pz_ho B N r1 D l)) : wp_X11_readHouse ms_E0 u 233 (nI q) pv := by
  have c1 := hd.1.2.2.1
  have c2 := hd.1.2.2.2.1
  have M := hz.2.2.2.2.2
  have l1 : Int32.toNatClampNeg 1 = 1 := rfl
  have l2 : Int32.toNatClampNeg 2 = 2 := rfl
  unfold wp_X11_readHouse wp_X11_readHouse_18 wp_X11_readHouse_181
  rw [at_233_9, l1, l2, M 2 (by omega)]
  refine ⟨vi 2 1613, pk_eq (D 2) 16 (fun h => ?_) (fun h => ?_)⟩
  · rw [if_pos h] at hp
    exact m_rep (c := 4) hz rfl (fun u1 h1 => g_no (mb_b h1) ⟨fun _ => hp u1 h1, fun z => absurd rfl z⟩)
  rw [if_neg h] at hp
  refine g_yes hz.2.2.1.1 ⟨fun z => absurd z (by decide), fun _ => ⟨vi 2 1613, ?_⟩⟩
  unfold wp_X11_house
  dsimp only
  rw [M 2 (by omega), M 1 (by omega), ixH0]
  generalize hi : 56 + 7 * D 2 = i
  have hi2 : 56 ≤ i ∧ i ≤ 161 := by omega
  have i1 : nI i + 1 = nI (i + 1) := nI_1 _
  have i2 : nI i + 2 = nI (i + 2) := by rw [lit_I 2, nI_add]
  have i3 : nI i + 3 = nI (i + 3) := by rw [lit_I 3, nI_add]
  have i4 : nI i + 4 = nI (i + 4) := by rw [lit_I 4, nI_add]
  have i5 : nI i + 5 = nI (i + 5) := by rw [lit_I 5, nI_add]
  have i6 : nI i + 6 = nI (i + 6) := by rw [lit_I 6, nI_add]
  have w0 : vp_in (nI i) 1613 := vp_in_nI (by omega) (by omega)
  have w1 : vp_in (nI (i + 1)) 1613 := vp_in_nI (by omega) (by omega)
  have w2 : vp_in (nI (i + 2)) 1613 := vp_in_nI (by omega) (by omega)
  have w3 : vp_in (nI (i + 3)) 1613 := vp_in_nI (by omega) (by omega)
  have w4 : vp_in (nI (i + 4)) 1613 := vp_in_nI (by omega) (by omega)
  have w5 : vp_in (nI (i + 5)) 1613 := vp_in_nI (by omega) (by omega)
  have w6 : vp_in (nI (i + 6)) 1613 := vp_in_nI (by omega) (by omega)
  rw [i1, i2, i3, i4, i5, i6, nI_clamp (show i < 2 ^ 31 by omega), nI_clamp (show i + 1 < 2 ^ 31 by omega), nI_clamp (show i + 2 < 2 ^ 31 by omega), nI_clamp (show i + 3 < 2 ^ 31 by omega), nI_clamp (show i + 4 < 2 ^ 31 by omega), nI_clamp (show i + 5 < 2 ^ 31 by omega), nI_clamp (show i + 6 < 2 ^ 31 by omega)]
  unfold pz_ho at hp
  refine ⟨vi 1 1613, mN (lo := 0) (hx := D 1) hB hz (by omega) (by omega) rfl rfl _ hp (fun e r v hv hq => g_no (mb_b hv) ⟨fun _ => hq v hv, fun z => absurd rfl z⟩) (fun s q2 n1 hp u2 hz2 _ => g_yes hz2.2.2.1.1 ⟨fun z => absurd z (by decide), fun _ => ⟨w0, ?_⟩⟩)⟩
  have hs := (n_ok hz.2.1.1 n1).2.2.2.2.1
  have hs2 := hd.2.1 s hs
  have hz3 := mz_w (k := i) (v := s) hz2 (by omega) (by omega)
  unfold wp_X11_street
  dsimp only
  have j2 : (8 : Int32) + 4 * nI s + 2 = nI (8 + 4 * s + 2) := by rw [ixS0, lit_I 2, nI_add]
  rw [j2, nI_clamp (show 8 + 4 * s + 2 < 2 ^ 31 by omega), hz3.2.2.2.2.2 (8 + 4 * s + 2) (by omega), u_at, if_neg (by omega)]
  have fin : ∀ e v z0, mb u0 e v → (∀ u', mb u0 e u' → pv u') → vp_in (nI (i + 6)) 1613 ∧ (vp_in 2 1613 ∧ (vp_in 2 1613 ∧ (∀ w191 : ms_St, w191 = (ms_sI (ms_sI v 236 (i + 6) z0) 236 2 ((ms_I (ms_sI v 236 (i + 6) z0) 236 2) + 1)) → (pv w191)))) := fun e v z0 hv hq => ⟨w6, vi 2 1613, vi 2 1613, fun w ew => hq w (by rw [ew]; exact mb_w (mb_w hv))⟩
  refine ⟨vp_in_nI (by omega) (by omega), mN (lo := 0) (hx := D (8 + 4 * s + 2) + 1) hB hz3 (by omega) (by omega) rfl (nI_pred _).symm _ hp (fun e r v hv hq => ⟨w1, ?_⟩) (fun o q3 n2 hp u3 hz4 _ => ⟨w1, ?_⟩)⟩
  · refine b_number (mb_b (mb_w hv)) ⟨w2, b_number (mb_b (mb_w (mb_w hv))) ⟨w3, b_number (mb_b (mb_w (mb_w (mb_w hv)))) ⟨w4, w4, b_number (mb_b (mb_w (mb_w (mb_w (mb_w hv))))) ⟨w5, b_takeWord (mb_b (mb_w (mb_w (mb_w (mb_w (mb_w hv)))))) ⟨fun _ => fin e _ _ (mb_w (mb_w (mb_w (mb_w (mb_w hv))))) hq, fun z => absurd rfl z⟩⟩⟩⟩⟩
  have hz5 := mz_w (k := i + 1) (v := o) hz4 (by omega) (by omega)
  refine mN (lo := 0) (hx := 2) hB hz5 (by omega) (by omega) rfl rfl _ hp (fun e r v hv hq => ⟨w2, ?_⟩) (fun sd q4 n3 hp u4 hz6 _ => ⟨w2, ?_⟩)
  · refine b_number (mb_b (mb_w hv)) ⟨w3, b_number (mb_b (mb_w (mb_w hv))) ⟨w4, w4, b_number (mb_b (mb_w (mb_w (mb_w hv)))) ⟨w5, b_takeWord (mb_b (mb_w (mb_w (mb_w (mb_w hv))))) ⟨fun _ => fin e _ _ (mb_w (mb_w (mb_w (mb_w hv)))) hq, fun z => absurd rfl z⟩⟩⟩⟩
  have hz7 := mz_w (k := i + 2) (v := sd) hz6 (by omega) (by omega)
  refine mN (lo := 0) (hx := 21) hB hz7 (by omega) (by omega) rfl rfl _ hp (fun e r v hv hq => ⟨w3, ?_⟩) (fun p q5 n4 hp u5 hz8 _ => ⟨w3, ?_⟩)
  · refine b_number (mb_b (mb_w hv)) ⟨w4, w4, b_number (mb_b (mb_w (mb_w hv))) ⟨w5, b_takeWord (mb_b (mb_w (mb_w (mb_w hv)))) ⟨fun _ => fin e _ _ (mb_w (mb_w (mb_w hv))) hq, fun z => absurd rfl z⟩⟩⟩
  have hz9 := mz_w (k := i + 3) (v := p) hz8 (by omega) (by omega)
  refine mN (lo := 0) (hx := 1440) hB hz9 (by omega) (by omega) rfl rfl _ hp (fun e r v hv hq => ⟨w4, w4, ?_⟩) (fun f q6 n5 hp u6 hz10 _ => ⟨w4, w4, ?_⟩)
  · refine b_number (mb_b (mb_w hv)) ⟨w5, b_takeWord (mb_b (mb_w (mb_w hv))) ⟨fun _ => fin e _ _ (mb_w (mb_w hv)) hq, fun z => absurd rfl z⟩⟩
  have hf := (n_ok hz8.2.1.1 n5).2.2.2.2.1
  have hz11 := mz_w (k := i + 4) (v := f) hz10 (by omega) (by omega)
  rw [h2_at, if_pos rfl]
  refine mN (lo := f + 1) (hx := 1441) hB hz11 (by omega) (by omega) (nI_1 f) rfl _ hp (fun e r v hv hq => ⟨w5, ?_⟩) (fun t q7 n6 hp u7 hz12 _ => ⟨w5, ?_⟩)
  · refine b_takeWord (mb_b (mb_w hv)) ⟨fun _ => fin e _ _ (mb_w hv) hq, fun z => absurd rfl z⟩
  have hz13 := mz_w (k := i + 5) (v := t) hz12 (by omega) (by omega)
  have done : ∀ g q9 u9, g ≤ 1 → mz u0 u9 B N q9 (sp_u (sp_u (sp_u (sp_u (sp_u (sp_u D i s) (i + 1) o) (i + 2) sd) (i + 3) p) (i + 4) f) (i + 5) t) → (∀ u', mz u0 u' B N q9 (ho_D D s o sd p f t g) → pv u') → vp_in (nI (i + 6)) 1613 ∧ (vp_in 2 1613 ∧ (vp_in 2 1613 ∧ (∀ w191 : ms_St, w191 = (ms_sI (ms_sI u9 236 (i + 6) (nI g)) 236 2 ((ms_I (ms_sI u9 236 (i + 6) (nI g)) 236 2) + 1)) → (pv w191)))) := by
    intro g q9 u9 hg hz14 hq
    have hz15 := mz_w (k := i + 6) (v := g) hz14 (by omega) (by omega)
    have e1 : ms_I (ms_sI u9 236 (i + 6) (nI g)) 236 2 + 1 = nI (D 2 + 1) := by
      rw [hz15.2.2.2.2.2 2 (by omega), u_at, if_neg (by omega), u_at, if_neg (by omega), u_at, if_neg (by omega), u_at, if_neg (by omega), u_at, if_neg (by omega), u_at, if_neg (by omega), u_at, if_neg (by omega), nI_1]
    refine ⟨w6, vi 2 1613, vi 2 1613, fun w ew => hq w ?_⟩
    rw [e1] at ew
    refine mz_e (ew ▸ mz_w (k := 2) (v := D 2 + 1) hz15 (by omega) (by omega)) ?_
    funext k
    unfold ho_D
    rw [hi]
    simp only [u_at]
    repeat' split
    all_goals first | rfl | (exfalso; omega)
  have hq7 := hz12.2.1.1
  have hmp := hz13.2.1
  refine m_takeWord k26 (by decide) (bt_mg hz13.1 hB) hmp hz13.2.2.1.1 (fun cd u8 hF8 h48 => ?_) (fun cd u8 hF8 h48 => ?_)
  · rw [if_pos cd] at hp
    have hle : q7 + 3 ≤ N := wd_pos hq7 (wk_mem k4) cd
    refine ⟨fun z => absurd z (by decide), fun _ => done 1 _ u8 (by omega) ⟨mg_nf hz13.1 (pf_nf hF8), ⟨s_le hle, q7 + 3, hle, h48, rfl⟩, by rw [hF8.1 233 5 (by omega), hF8.1 233 6 (by omega)]; exact hz13.2.2.1, by rw [hF8.1 233 13 (by omega)]; exact hz13.2.2.2.1, by rw [hF8.1 233 14 (by omega)]; exact hz13.2.2.2.2.1, fun k hk => by rw [hF8.1 236 k (by omega)]; exact hz13.2.2.2.2.2 k hk⟩ hp⟩
  · rw [if_neg cd] at hp
    have hne32 : pz_at B N q7 ≠ 32 := by
      obtain ⟨_, P, hP, _, hs⟩ := hmp
      rw [← hs]
      exact s_ne hP
    refine ⟨fun _ => done 0 _ u8 (by omega) ⟨mg_nf hz13.1 (pf_nf hF8), mp_at h48 hq7 hne32, by rw [hF8.1 233 5 (by omega), hF8.1 233 6 (by omega)]; exact hz13.2.2.1, by rw [hF8.1 233 13 (by omega)]; exact hz13.2.2.2.1, by rw [hF8.1 233 14 (by omega)]; exact hz13.2.2.2.2.1, fun k hk => by rw [hF8.1 236 k (by omega)]; exact hz13.2.2.2.2.2 k hk⟩ hp, fun z => absurd rfl z⟩
theorem mz_pf {u1 : ms_St} {P : Nat} (hz : mz u0 u B N q D) (hF : pf u u1) (h4 : ms_I u1 233 4 = nI P) (hP : P ≤ N) : mz u0 u1 B N (pz_s B N P) D :=
  ⟨mg_nf hz.1 (pf_nf hF), ⟨s_le hP, P, hP, h4, rfl⟩, by rw [hF.1 233 5 (by omega), hF.1 233 6 (by omega)]; exact hz.2.2.1, by rw [hF.1 233 13 (by omega)]; exact hz.2.2.2.1, by rw [hF.1 233 14 (by omega)]; exact hz.2.2.2.2.1, fun k hk => by rw [hF.1 236 k (by omega)]; exact hz.2.2.2.2.2 k hk⟩
theorem mz_ne (hz : mz u0 u B N q D) : pz_at B N q ≠ 32 := by
  obtain ⟨_, P, hP, _, hs⟩ := hz.2.1
  rw [← hs]
  exact s_ne hP
theorem mz_pq {u1 : ms_St} (hz : mz u0 u B N q D) (hF : pf u u1) (h4 : ms_I u1 233 4 = nI q) : mz u0 u1 B N q D := by
  have := mz_pf hz hF h4 hz.2.1.1
  rw [s_stop (mz_ne hz)] at this
  exact this
theorem mT {o : Nat} {w : List Nat} (hk : wk o w) (hl : 0 < w.length ∧ w.length < 100) (hB : bt_M u0 B N) (hz : mz u0 u B N q D) (hyes : pz_wd B N w q = true → ∀ u', mz u0 u' B N (pz_s B N (q + w.length)) D → post 1 u') (hno : ¬ pz_wd B N w q = true → ∀ u', mz u0 u' B N q D → post 0 u') : wp_X11_takeWord ms_E0 u 233 o post :=
  m_takeWord hk hl (bt_mg hz.1 hB) hz.2.1 hz.2.2.1.1 (fun c u1 hF h4 => hyes c u1 (mz_pf hz hF h4 (wd_pos hz.2.1.1 (wk_mem hk) c))) (fun c u1 hF h4 => hno c u1 (mz_pq hz hF h4))
theorem m_semi (hB : bt_M u0 B N) {r : ms_ZZ} (hp : mq_P u0 B N pv (pz_zb r (pz_sc B N))) : mq_P u0 B N (fun v => wp_X11_expect ms_E0 v 233 59 pv) r := by
  cases r with
  | inl e => exact fun u' h => b_expect (mb_b h) (hp u' h)
  | inr x =>
    intro u1 hz
    have hp : mq_P u0 B N pv (pz_sc B N x.1 x.2.1 x.2.2) := hp
    unfold pz_sc at hp
    refine m_expect (a := 59) (by omega) (bt_mg hz.1 hB) hz.2.1 hz.2.2.1.1 (fun c u2 hF h4 => ?_) (fun c u2 hF h5 h6 => ?_)
    · rw [if_pos c] at hp
      have hlt : x.1 < N := by
        by_cases z : x.1 < N
        · exact z
        · unfold pz_at at c; rw [if_neg z] at c; omega
      exact hp u2 (mz_pf hz hF h4 (by omega))
    · rw [if_neg c] at hp
      exact hp u2 ⟨mg_nf hz.1 hF, h5, h6⟩
theorem b_once {j : Int32} (h : mb u0 e u) (hp : ∀ u', mb u0 e u' → pv u') : wp_X11_once ms_E0 u 233 j a2 pv := by
  unfold wp_X11_once wp_X11_once_19
  exact ⟨fun _ => r_no (mb_b h) (hp _ (mb_14 h)), fun _ => hp _ (mb_14 h)⟩
theorem m_once {k : Nat} {j : Int32} (hk : j = 0 ∧ k = 2000 ∨ j = 1 ∧ k = 2001) (hz : mz u0 u B N q D) (hd : pw D l) {o : Nat} (hbad : D k = 1 → ∀ u', mb u0 (2, o) u' → pv u') (hok : ¬ D k = 1 → ∀ u', mz u0 u' B N q (sp_u D k 1) → pv u') : wp_X11_once ms_E0 u 233 j (nI o) pv := by
  have a6 := hd.1.2.2.2.2.2.2.2.1
  have a8 := hd.1.2.2.2.2.2.2.2.2.1
  have a9 := hd.1.2.2.2.2.2.2.2.2.2
  have g5 := hz.2.2.2.2.1
  have hdk : D k ≤ 1 := by rcases hk with ⟨_, rfl⟩ | ⟨_, rfl⟩ <;> assumption
  have e1 : ((nI (D 2000 + 2 * D 2001 + 4 * D 6) >>> (j &&& 31)) &&& 1 : Int32) = nI (D k) := by
    rcases hk with ⟨rfl, rfl⟩ | ⟨rfl, rfl⟩
    · exact (ob0 a8 a9 a6).1
    · exact (ob1 a8 a9 a6).1
  have e2 : (nI (D 2000 + 2 * D 2001 + 4 * D 6) ||| ((1 : Int32) <<< (j &&& 31)) : Int32) = nI (sp_u D k 1 2000 + 2 * sp_u D k 1 2001 + 4 * sp_u D k 1 6) := by
    rcases hk with ⟨rfl, rfl⟩ | ⟨rfl, rfl⟩
    · rw [u_at, if_pos rfl, u_at, if_neg (by omega), u_at, if_neg (by omega)]
      exact (ob0 a8 a9 a6).2
    · rw [u_at, if_neg (by omega), u_at, if_pos rfl, u_at, if_neg (by omega)]
      exact (ob1 a8 a9 a6).2
  have K : ∀ a b v, ¬ (a = 233 ∧ b = 14) → ms_I (ms_sI u 233 14 v) a b = ms_I u a b := fun a b v z => by rw [I_sI, if_neg z]
  unfold wp_X11_once wp_X11_once_19
  rw [g5, e1, e2]
  refine pk_eq (D k) 1 (fun h => ?_) (fun h => ?_)
  · exact m_rep (c := 2) hz rfl (fun u1 h1 => hbad h _ (mb_14 h1))
  · refine hok h _ ⟨mg_w hz.1 (by omega), ?_, by rw [K _ _ _ (by omega), K _ _ _ (by omega)]; exact hz.2.2.1, by rw [K _ _ _ (by omega)]; exact hz.2.2.2.1, by rw [I_sI, if_pos ⟨rfl, rfl⟩], fun x hx => ?_⟩
    · obtain ⟨p1, P, p2, p3, p4⟩ := hz.2.1
      exact ⟨p1, P, p2, by rw [K _ _ _ (by omega)]; exact p3, p4⟩
    · rw [K _ _ _ (by omega), u_at, if_neg (by omega)]
      exact hz.2.2.2.2.2 x hx
end MT
