/-! ===== the reference's simulation ===== -/
def mm_F (u0 u : ms_St) : Prop := (∀ a b, ¬ (258 ≤ a ∧ a ≤ 264) → ¬ (a = 233 ∧ b = 24) → ms_I u a b = ms_I u0 a b) ∧ ∀ a, a ≠ 257 → ms_J u a = ms_J u0 a
def mm_R (u : ms_St) (D : Nat → Nat) (S : Nat → Nat → Nat) : Prop := sm_R u 258 259 260 261 262 263 264 233 24 D S
section SM
variable {S : Nat → Nat → Nat} {D : Nat → Nat} {l : List ms_Op} {u u0 : ms_St} {w h : Nat} {post : Int32 → ms_St → Prop} {pv : ms_St → Prop}
theorem mm_refl : mm_F u u := ⟨fun _ _ _ _ => rfl, fun _ _ => rfl⟩
theorem mm_w (hF : mm_F u0 u) {a b : Nat} {v : Int32} (ha : (258 ≤ a ∧ a ≤ 264) ∨ (a = 233 ∧ b = 24)) : mm_F u0 (ms_sI u a b v) := by
  refine ⟨fun c d q q2 => ?_, hF.2⟩
  rw [I_sI, if_neg (by omega)]
  exact hF.1 c d q q2
theorem mm_I {u' : ms_St} (hF : mm_F u0 u) (hI : ms_I u' = ms_I u) (hJ : ∀ a, a ≠ 257 → ms_J u' a = ms_J u a) : mm_F u0 u' := ⟨fun a b q q2 => by rw [hI]; exact hF.1 a b q q2, fun a q => by rw [hJ a q]; exact hF.2 a q⟩
theorem mm_M (hF : mm_F u0 u) (hM : sp_M u0 235 D) : sp_M u 235 D := sp_M_eq (fun b => hF.1 235 b (by omega) (by omega)) hM
theorem mm_W (hF : mm_F u0 u) (hc : D 0 ≤ 10) (hW : fm_W u0 D) : fm_W u D := fun a b ha hb => by rw [hF.1 (247 + a) b (by omega) (by omega)]; exact hW a b ha hb
theorem m_nextHouse (hV : sp_V D l) (hM : sp_M u 235 D) (hS : sm_V D S) (hR : mm_R u D S) (hw : w < D 3) (hp : post (nI (sp_nh D S w)) u) : wp_X11_nextHouse ms_E0 u 233 (nI w) post := by
  have c3 := hV.1.2.2.2.1
  have r := (hR.1 w hw).2.2.1
  have b := (na_lt hV hS hw).2.1
  unfold wp_X11_nextHouse wp_X11_walker
  dsimp only
  rw [show (3 : Int32) = nI 3 from rfl, ixW, at_233_19, at_233_8, nI_clamp (show w < 2 ^ 31 by omega), r, nI_add, nI_clamp (by omega), hM _ (by omega)]
  exact ⟨vp_in_nI (by omega) (by omega), vp_in_nI (by omega) (by omega), hp⟩
theorem m_wayOf (hV : sp_V D l) (hM : sp_M u 235 D) (hW : fm_W u D) (hS : sm_V D S) (hR : mm_R u D S) (hw : w < D 3) (hh : h < D 2) (hp : post (nI (sp_wy D S w h)) u) : wp_X11_wayOf ms_E0 u 233 (nI w) (nI h) post := by
  have c3 := hV.1.2.2.2.1
  have r := (hR.1 w hw).2.1
  have b := (hS.1 w hw).2.2
  have c2 := hV.1.2.2.1
  have vw : vp_in (nI w) 3 := vp_in_nI (by omega) (by omega)
  unfold sp_wy at hp
  unfold wp_X11_wayOf wp_X11_wayOf_37 wp_X11_walker
  dsimp only
  rw [at_233_18, nI_clamp (show w < 2 ^ 31 by omega), r, ixW0, at_233_8, nI_clamp (by omega), hM _ (show 168 + 15 * w < 1613 by omega)]
  refine ⟨vw, pl_le (by omega) (fun j q => ⟨vw, ?_⟩) (fun q => ⟨vp_in_nI (by omega) (by omega), ?_⟩)⟩
  · rw [if_neg (by omega)] at hp
    rw [q, pl_s]
    rw [q, Nat.add_sub_cancel] at hp
    exact m_between hV hM hW (by omega) hh hp
  · rw [if_pos q] at hp
    exact m_fromCrossing hV hM hW (hV.2.2.2.1 w hw).1 hh hp
theorem m_nextArrival (hV : sp_V D l) (hM : sp_M u 235 D) (hW : fm_W u D) (hS : sm_V D S) (hR : mm_R u D S) (hw : w < D 3) (hd : S 2 w < D (168 + 15 * w + 2)) (hp : post (nI (sp_na D S w)) u) : wp_X11_nextArrival ms_E0 u 233 (nI w) post := by
  have c3 := hV.1.2.2.2.1
  have hh := nh_lt (S := S) hV hw hd
  have b := wy_le hV hS hw hh
  unfold sp_na at hp
  unfold wp_X11_nextArrival wp_X11_nextArrival_28
  refine m_nextHouse hV hM hS hR hw (m_wayOf hV hM hW hS hR hw hh ⟨vp_in_nI (by omega) (by omega), ?_⟩)
  rw [at_233_17, nI_clamp (by omega), (hR.1 w hw).1]
  refine pk_lt (sp_wy D S w (sp_nh D S w)) 1000000 (fun q => ?_) (fun q => ?_)
  · rw [if_pos q] at hp
    rw [nI_add]; exact hp
  · rw [if_neg (by omega)] at hp
    rw [show (0 : Int32) = nI 0 from rfl, nI_add]; exact hp
theorem m_nw (hV : sp_V D l) (hM : sp_M u 235 D) (hW : fm_W u D) (hS : sm_V D S) (hR : mm_R u D S) (hp : post (sm_pl (sp_nx D S (D 3))) u) : ∀ j r, j ≤ D 3 → nx_P D S j (D 3) r → wp_X11_nextWalker_11 ms_E0 233 post (j + 1) u (sm_pl r) (sm_pl j) := by
  have c3 := hV.1.2.2.2.1
  intro j
  induction j with
  | zero =>
    intro r _ hN
    unfold wp_X11_nextWalker_11
    refine ⟨fun _ => ?_, fun q => absurd NO_lt q⟩
    rw [nx_un hN (nx_up (D 3))]
    exact hp
  | succ j ih =>
    intro r hj hN
    have l1 := (hV.2.2.2.1 j (by omega)).2.2.1
    have l2 := (hS.1 j (by omega)).1
    unfold wp_X11_nextWalker_11 wp_X11_nextWalker_52 wp_X11_nextWalker_54 wp_X11_walker
    dsimp only
    rw [pl_s, pl_a1]
    refine ⟨fun q => absurd q (nI_pos (by omega)), fun _ => ⟨vp_in_nI (by omega) (by omega), ?_⟩⟩
    rw [show (2 : Int32) = nI 2 from rfl, ixW, at_233_8, at_233_19, nI_clamp (show 168 + 15 * j + 2 < 2 ^ 31 by omega), nI_clamp (show j < 2 ^ 31 by omega), hM _ (show 168 + 15 * j + 2 < 1613 by omega), (hR.1 j (by omega)).2.2.1]
    have hr : r ≤ 3 := by rcases hN with ⟨h1, _⟩ | ⟨i, h1, _, h3, _⟩ <;> omega
    refine ⟨vp_in_nI (by omega) (by omega), pk_le (D (168 + 15 * j + 2)) (S 2 j) (fun q => ih r (by omega) ?_) (fun q => pl_lt (by omega) (fun q2 => ih (j + 1) (by omega) ?_) (fun i q2 => ?_))⟩
    · rcases hN with ⟨h1, h2⟩ | ⟨i, h1, h2, h3, h4, h5⟩
      · refine Or.inl ⟨h1, fun k hk hk2 => ?_⟩
        rcases (show k = j ∨ j + 1 ≤ k by omega) with e | e
        · subst e; omega
        · exact h2 k e hk2
      · refine Or.inr ⟨i, h1, by omega, h3, h4, fun k hk hk2 ha => ?_⟩
        rcases (show k = j ∨ j + 1 ≤ k by omega) with e | e
        · subst e; omega
        · exact h5 k e hk2 ha
    · refine Or.inr ⟨j, rfl, by omega, by omega, q, fun k hk hk2 ha => ?_⟩
      rcases (show k = j ∨ j + 1 ≤ k by omega) with e | e
      · subst e; omega
      · rcases hN with ⟨h1, h2⟩ | ⟨i, h1, h2, h3, h4, h5⟩
        · exact absurd ha (h2 k e hk2)
        · omega
    · rcases hN with ⟨h1, h2⟩ | ⟨i', h1, h2, h3, h4, h5⟩
      · omega
      have e : i' = i := by omega
      subst e
      rw [q2, pl_s]
      have b1 := (na_lt hV hS (show j < D 3 by omega)).1
      have b2 := (na_lt hV hS h3).1
      refine m_nextArrival hV hM hW hS hR (by omega) q (m_nextArrival hV hM hW hS hR h3 h4 (pk_lt (sp_na D S i') (sp_na D S j) (fun q3 => ?_) (fun q3 => ih (j + 1) (by omega) ?_)))
      · have := ih (i' + 1) (by omega) (Or.inr ⟨i', rfl, by omega, h3, h4, fun k hk hk2 ha => ?_⟩)
        · exact this
        rcases (show k = j ∨ j + 1 ≤ k by omega) with e | e
        · subst e; omega
        · exact h5 k e hk2 ha
      · refine Or.inr ⟨j, rfl, by omega, by omega, q, fun k hk hk2 ha => ?_⟩
        rcases (show k = j ∨ j + 1 ≤ k by omega) with e | e
        · subst e; omega
        · have := (h5 k e hk2 ha).1
          omega
theorem m_nextWalker (hV : sp_V D l) (hM : sp_M u 235 D) (hW : fm_W u D) (hS : sm_V D S) (hR : mm_R u D S) (hp : post (sm_pl (sp_nx D S (D 3))) u) : wp_X11_nextWalker ms_E0 u 233 post := by
  unfold wp_X11_nextWalker
  rw [at_233_8, show Int32.toNatClampNeg 3 = 3 from rfl, hM 3 (by omega), pl_m1]
  refine ⟨vi 3 1613, fun v e => ⟨D 3 + 1, ?_⟩⟩
  subst e
  exact m_nw hV hM hW hS hR hp (D 3) 0 (Nat.le_refl _) (Or.inl ⟨rfl, fun j a b => by omega⟩)
/-- the state once the walker stands before the house -/
def sm_mid (u v : ms_St) (cT cP cD cR cA cC cL cO cK w i t p d a : Nat) : Prop := ((ms_I v cT w = nI t ∧ ∀ x, x ≠ w → ms_I v cT x = ms_I u cT x) ∧ (ms_I v cP w = sm_pl p ∧ ∀ x, x ≠ w → ms_I v cP x = ms_I u cP x) ∧ (ms_I v cD w = nI d ∧ ∀ x, x ≠ w → ms_I v cD x = ms_I u cD x)) ∧ (∀ x, x ≠ i → ms_I v cR x = ms_I u cR x) ∧ (ms_I v cA i = nI a ∧ ∀ x, x ≠ i → ms_I v cA x = ms_I u cA x) ∧ (∀ x, ms_I v cC x = ms_I u cC x) ∧ (∀ x, ms_I v cL x = ms_I u cL x) ∧ ms_I v cO cK = ms_I u cO cK
theorem mid_1 {v v' : ms_St} {cT cP cD cR cA cC cL cO cK t p a h r : Nat} (hV : sp_V D l) (hS : sm_V D S) (hR : sm_R u cT cP cD cR cA cC cL cO cK D S) (hw : w < D 3) (hd : S 2 w < D (168 + 15 * w + 2)) (hh : h < 16) (hm : sm_mid u v cT cP cD cR cA cC cL cO cK w (w * 12 + S 2 w) t p (S 2 w + 1) a) (hc : cR ≠ cT ∧ cR ≠ cP ∧ cR ≠ cD ∧ cR ≠ cA ∧ cR ≠ cC ∧ cR ≠ cL ∧ cR ≠ cO)
    (hv : ∀ x y, ¬ (x = cR ∧ y = w * 12 + S 2 w) → ms_I v' x y = ms_I v x y) (hr : ms_I v' cR (w * 12 + S 2 w) = nI r) : sm_R v' cT cP cD cR cA cC cL cO cK D (sm_up S w t p r a h (S 5 h) (S 6 h) (S 7 0)) := by
  obtain ⟨⟨⟨e0, n0⟩, ⟨e1, n1⟩, ⟨e2, n2⟩⟩, n3, ⟨e4, n4⟩, n5, n6, n7⟩ := hm
  have k : ∀ x y, x ≠ cR → ms_I v' x y = ms_I v x y := fun x y q => hv x y (fun z => q z.1)
  refine sm_step hV hS hR hw hd ?_ (fun x hx => ?_) ?_ (fun x hx => ?_) ?_ (fun x hx => ?_) hr (fun x hx => ?_) ?_ (fun x hx => ?_) ?_ (fun x hx => ?_) (fun q => ?_) (fun x hx => ?_) ?_
  · rw [k _ _ (Ne.symm hc.1), e0]
  · rw [k _ _ (Ne.symm hc.1), n0 x hx]
  · rw [k _ _ (Ne.symm hc.2.1), e1]
  · rw [k _ _ (Ne.symm hc.2.1), n1 x hx]
  · rw [k _ _ (Ne.symm hc.2.2.1), e2]
  · rw [k _ _ (Ne.symm hc.2.2.1), n2 x hx]
  · rw [hv _ _ (fun z => hx z.2), n3 x hx]
  · rw [k _ _ (Ne.symm hc.2.2.2.1), e4]
  · rw [k _ _ (Ne.symm hc.2.2.2.1), n4 x hx]
  · rw [k _ _ (Ne.symm hc.2.2.2.2.1), n5]; exact (hR.2.1 h hh).1
  · rw [k _ _ (Ne.symm hc.2.2.2.2.1), n5]
  · rw [k _ _ (Ne.symm hc.2.2.2.2.2.1), n6]; exact (hR.2.1 h hh).2 q
  · rw [k _ _ (Ne.symm hc.2.2.2.2.2.1), n6]
  · rw [k _ _ (Ne.symm hc.2.2.2.2.2.2), n7]; exact hR.2.2
theorem mid_2 {v v' : ms_St} {cT cP cD cR cA cC cL cO cK t t2 p a h r c m s : Nat} (hV : sp_V D l) (hS : sm_V D S) (hR : sm_R u cT cP cD cR cA cC cL cO cK D S) (hw : w < D 3) (hd : S 2 w < D (168 + 15 * w + 2)) (hm : sm_mid u v cT cP cD cR cA cC cL cO cK w (w * 12 + S 2 w) t2 p (S 2 w + 1) a)
    (e0 : ms_I v' cT w = nI t) (n0 : ∀ x, x ≠ w → ms_I v' cT x = ms_I v cT x) (n1 : ∀ x, ms_I v' cP x = ms_I v cP x) (n2 : ∀ x, ms_I v' cD x = ms_I v cD x) (e3 : ms_I v' cR (w * 12 + S 2 w) = nI r) (n3 : ∀ x, x ≠ w * 12 + S 2 w → ms_I v' cR x = ms_I v cR x) (n4 : ∀ x, ms_I v' cA x = ms_I v cA x) (e5 : ms_I v' cC h = nI c) (n5 : ∀ x, x ≠ h → ms_I v' cC x = ms_I v cC x) (e6 : ms_I v' cL h = nI m) (n6 : ∀ x, x ≠ h → ms_I v' cL x = ms_I v cL x) (e7 : ms_I v' cO cK = nI s) : sm_R v' cT cP cD cR cA cC cL cO cK D (sm_up S w t p r a h c m s) := by
  obtain ⟨⟨⟨_, m0⟩, ⟨d1, m1⟩, ⟨d2, m2⟩⟩, m3, ⟨d4, m4⟩, m5, m6, _⟩ := hm
  exact sm_step hV hS hR hw hd e0 (fun x hx => (n0 x hx).trans (m0 x hx)) ((n1 w).trans d1) (fun x hx => (n1 x).trans (m1 x hx)) ((n2 w).trans d2) (fun x hx => (n2 x).trans (m2 x hx)) e3 (fun x hx => (n3 x hx).trans (m3 x hx)) ((n4 _).trans d4) (fun x hx => (n4 x).trans (m4 x hx)) e5 (fun x hx => (n5 x hx).trans (m5 x)) (fun _ => e6) (fun x hx => (n6 x hx).trans (m6 x)) e7
theorem m_mid {t h i d : Nat} : sm_mid u (ms_sI (ms_sI (ms_sI (ms_sI (ms_sI u 260 w (nI d)) 262 i (nI t)) 261 i 4) 258 w (nI t)) 259 w (nI h)) 258 259 260 261 262 263 264 233 24 w i t (h + 1) d t := by
  refine ⟨⟨⟨?_, fun x hx => ?_⟩, ⟨?_, fun x hx => ?_⟩, ⟨?_, fun x hx => ?_⟩⟩, fun x hx => ?_, ⟨?_, fun x hx => ?_⟩, fun x => ?_, fun x => ?_, ?_⟩
  all_goals
    simp only [I_sI]
    first | rfl | (simp [pl_s]; done) | (simp [hx]; done)
theorem m_go (hV : sp_V D l) (hM : sp_M u 235 D) (hW : fm_W u D) (hS : sm_V D S) (hR : mm_R u D S) (hw : w < D 3) (hd : S 2 w < D (168 + 15 * w + 2)) (hF : mm_F u0 u) (hp : ∀ u', mm_F u0 u' → mm_R u' D (sp_go D l S w) → pv u') : wp_X11_go ms_E0 u 233 (nI w) pv := by
  have c2 := hV.1.2.2.1
  have c3 := hV.1.2.2.2.1
  have c5 := hV.1.2.2.2.2.2.1
  have hh := nh_lt (S := S) hV hw hd
  have b := wy_le hV hS hw hh
  have bn := na_lt hV hS hw
  have lw := (hV.2.2.2.1 w hw).2.2.1
  have b5 := hS.2.1 (sp_nh D S w)
  have b7 := hS.2.2
  have r0 : ms_I u 258 w = nI (S 0 w) := (hR.1 w hw).1
  have r1 : ms_I u 259 w = sm_pl (S 1 w) := (hR.1 w hw).2.1
  have r2 : ms_I u 260 w = nI (S 2 w) := (hR.1 w hw).2.2.1
  have r5 : ms_I u 263 (sp_nh D S w) = nI (S 5 (sp_nh D S w)) := (hR.2.1 _ (by omega)).1
  have r6 : 1 ≤ S 5 (sp_nh D S w) → ms_I u 264 (sp_nh D S w) = nI (S 6 (sp_nh D S w)) := (hR.2.1 _ (by omega)).2
  have r7 : ms_I u 233 24 = nI (S 7 0) := hR.2.2
  have b9 : (1 : Int32) <<< (nI (sp_nh D S w) &&& 31) = nI (2 ^ sp_nh D S w) := bt_1 (by omega)
  have vw : vp_in (nI w) 3 := vp_in_nI (by omega) (by omega)
  have vh : vp_in (nI (sp_nh D S w)) 16 := vp_in_nI (by omega) (by omega)
  have va : vp_in (nI (w * 12 + S 2 w)) 36 := vp_in_nI (by omega) (by omega)
  have kw : (nI w).toNatClampNeg = w := nI_clamp (by omega)
  have kh : (nI (sp_nh D S w)).toNatClampNeg = sp_nh D S w := nI_clamp (by omega)
  have ka : (nI (w * 12 + S 2 w)).toNatClampNeg = w * 12 + S 2 w := nI_clamp (by omega)
  have e35 : ∀ v, mm_F u0 v → ms_I v 235 5 = ms_I u 235 5 := fun v q => by rw [q.1 235 5 (by omega) (by omega), hF.1 235 5 (by omega) (by omega)]
  unfold wp_X11_go
  refine m_nextHouse hV hM hS hR hw (m_nextArrival hV hM hW hS hR hw hd ⟨vw, fun v23 e23 => m_wayOf hV hM hW hS hR hw hh ?_⟩)
  have e24 : v23 = nI (w * 12 + S 2 w) := by rw [e23, at_233_19, kw, r2, show (12 : Int32) = nI 12 from rfl, pk_mul, nI_add, Nat.mul_comm 12 w]
  clear e23
  subst e24
  unfold wp_X11_go_41
  rw [at_233_17, at_233_18, at_233_19, at_233_20, at_233_21, kw, ka, r2]
  refine pk_le 1000000 (sp_wy D S w (sp_nh D S w)) (fun q => ⟨vw, vw, fun w52 e52 => ⟨va, va, fun w68 e68 => ⟨fun _ => ?_, fun q => absurd rfl q⟩⟩⟩) (fun q => ⟨vw, vw, fun w52 e52 => ⟨va, va, fun w68 e68 => ⟨fun q => absurd q (by decide), fun _ => ⟨vw, vw, fun w88 e88 => ?_⟩⟩⟩⟩)
  · have en : sp_na D S w = S 0 w := by unfold sp_na; rw [if_neg (by omega)]; rfl
    rw [en] at e68
    subst e52
    subst e68
    refine hp _ (mm_w (mm_w (mm_w hF (by omega)) (by omega)) (by omega)) ?_
    rw [go_far (by omega)]
    exact sm_step hV hS hR hw hd (by simp [I_sI, r0, r1, r5, r7, nI_1, show (4 : Int32) = nI 4 from rfl]) (fun x hx => by simp [I_sI, r0, r1, r5, r7, nI_1, show (4 : Int32) = nI 4 from rfl, hx]) (by simp [I_sI, r0, r1, r5, r7, nI_1, show (4 : Int32) = nI 4 from rfl]) (fun x hx => by simp [I_sI, r0, r1, r5, r7, nI_1, show (4 : Int32) = nI 4 from rfl, hx]) (by simp [I_sI, r0, r1, r5, r7, nI_1, show (4 : Int32) = nI 4 from rfl]) (fun x hx => by simp [I_sI, r0, r1, r5, r7, nI_1, show (4 : Int32) = nI 4 from rfl, hx]) (by simp [I_sI, r0, r1, r5, r7, nI_1, show (4 : Int32) = nI 4 from rfl]) (fun x hx => by simp [I_sI, r0, r1, r5, r7, nI_1, show (4 : Int32) = nI 4 from rfl, hx]) (by simp [I_sI, r0, r1, r5, r7, nI_1, show (4 : Int32) = nI 4 from rfl]) (fun x hx => by simp [I_sI, r0, r1, r5, r7, nI_1, show (4 : Int32) = nI 4 from rfl, hx]) (by simp [I_sI, r0, r1, r5, r7, nI_1, show (4 : Int32) = nI 4 from rfl]) (fun x hx => by simp [I_sI, r0, r1, r5, r7, nI_1, show (4 : Int32) = nI 4 from rfl, hx]) (fun q => by simp [I_sI, r0, r1, r5, r7, nI_1, show (4 : Int32) = nI 4 from rfl, r6 q]) (fun x hx => by simp [I_sI, r0, r1, r5, r7, nI_1, show (4 : Int32) = nI 4 from rfl, hx]) (by simp [I_sI, r0, r1, r5, r7, nI_1, show (4 : Int32) = nI 4 from rfl])
  have g7 : ms_I w88 233 24 = nI (S 7 0) := by subst e52; subst e68; subst e88; simp [I_sI, r7]
  have g5 : ms_I w88 263 (sp_nh D S w) = nI (S 5 (sp_nh D S w)) := by subst e52; subst e68; subst e88; simp [I_sI, r5]
  have g6 : ms_I w88 264 (sp_nh D S w) = ms_I u 264 (sp_nh D S w) := by subst e52; subst e68; subst e88; simp [I_sI]
  have g8 : mm_F u0 w88 := by subst e52; subst e68; subst e88; exact mm_w (mm_w (mm_w (mm_w (mm_w hF (by omega)) (by omega)) (by omega)) (by omega)) (by omega)
  have gd : ms_I w88 235 5 = nI (D 5) := by rw [e35 _ g8]; exact hM 5 (by omega)
  have hm : sm_mid u w88 258 259 260 261 262 263 264 233 24 w (w * 12 + S 2 w) (sp_na D S w) (sp_nh D S w + 1) (S 2 w + 1) (sp_na D S w) := by subst e52; subst e68; subst e88; rw [nI_1]; exact m_mid
  have s88 : ∀ r v, (∀ a b, ¬ (a = 261 ∧ b = w * 12 + S 2 w) → ms_I v a b = ms_I w88 a b) → ms_I v 261 (w * 12 + S 2 w) = nI r → mm_R v D (sm_up S w (sp_na D S w) (sp_nh D S w + 1) r (sp_na D S w) (sp_nh D S w) (S 5 (sp_nh D S w)) (S 6 (sp_nh D S w)) (S 7 0)) := fun r v hv hr => mid_1 hV hS hR hw hd (Nat.lt_of_lt_of_le hh c2) hm (by decide) hv hr
  clear e52 e68 e88
  rw [g7]
  refine bt_1A (by omega) (by omega) (fun h2 => ?_) (fun h2 => ?_)
  · unfold wp_X11_go_112 wp_X11_go_161
    rw [at_233_20, ka]
    refine ⟨va, va, fun _ => hp _ (mm_w g8 (by omega)) ?_, fun q => absurd (by rw [I_sI, if_pos ⟨rfl, rfl⟩]) q⟩
    rw [go_done (by omega) h2]
    exact s88 2 _ (fun a b q => by rw [I_sI, if_neg q]) (by rw [I_sI, if_pos ⟨rfl, rfl⟩]; rfl)
  unfold wp_X11_go_112 wp_X11_go_161
  rw [at_233_20, at_233_22, at_233_23, at_233_8, ka, kh]
  have f3 : ¬ ms_I (ms_sI w88 261 (w * 12 + S 2 w) 3) 261 (w * 12 + S 2 w) = 2 := by rw [I_sI, if_pos ⟨rfl, rfl⟩]; decide
  have f5 : ms_I (ms_sI w88 261 (w * 12 + S 2 w) 3) 263 (sp_nh D S w) = nI (S 5 (sp_nh D S w)) := by rw [I_sI, if_neg (by omega), g5]
  have f6 : ms_I (ms_sI w88 261 (w * 12 + S 2 w) 3) 264 (sp_nh D S w) = ms_I u 264 (sp_nh D S w) := by rw [I_sI, if_neg (by omega), g6]
  have fd : ms_I (ms_sI w88 261 (w * 12 + S 2 w) 3) 235 (Int32.toNatClampNeg 5) = nI (D 5) := by rw [I_sI, if_neg (by omega)]; exact gd
  have fr : (S 5 (sp_nh D S w) = 2 ∨ (S 5 (sp_nh D S w) = 1 ∧ sp_na D S w < S 6 (sp_nh D S w) + D 5)) → pv (ms_sI w88 261 (w * 12 + S 2 w) 3) := by
    intro h3
    refine hp _ (mm_w g8 (by omega)) ?_
    rw [go_ref (by omega) h2 h3]
    exact s88 3 _ (fun a b q => by rw [I_sI, if_neg q]) (by rw [I_sI, if_pos ⟨rfl, rfl⟩]; rfl)
  have fg : ¬ (S 5 (sp_nh D S w) = 2 ∨ (S 5 (sp_nh D S w) = 1 ∧ sp_na D S w < S 6 (sp_nh D S w) + D 5)) → wp_X11_go_162 ms_E0 233 (nI w) pv (ms_sI w88 261 (w * 12 + S 2 w) 3) (nI (sp_nh D S w)) (nI (sp_na D S w)) (nI (w * 12 + S 2 w)) := by
    intro h3
    unfold wp_X11_go_162
    rw [at_233_22, at_233_23, at_233_20, kh, f5, nI_1]
    refine ⟨vh, vh, fun w171 e171 => ⟨vh, ?_⟩⟩
    have hF1 : mm_F u0 (ms_sI w171 264 (sp_nh D S w) (nI (sp_na D S w))) := by subst e171; exact mm_w (mm_w (mm_w g8 (by omega)) (by omega)) (by omega)
    have hM1 : sp_M (ms_sI w171 264 (sp_nh D S w) (nI (sp_na D S w))) 235 D := sp_M_eq (fun b => by rw [hF1.1 235 b (by omega) (by omega), hF.1 235 b (by omega) (by omega)]) hM
    refine m_home hV hM1 hh (by omega) ?_
    unfold wp_X11_go_203 wp_X11_go_230 wp_X11_go_249
    rw [at_233_17, at_233_22, ka, kh, kw]
    by_cases h4 : D (56 + 7 * sp_nh D S w + 4) ≤ sp_na D S w ∧ sp_na D S w < D (56 + 7 * sp_nh D S w + 5)
    · rw [if_pos h4]
      refine ⟨fun q => absurd q (by decide), fun _ => ⟨va, fun q => absurd q (by decide), fun _ => ⟨vh, ?_⟩⟩⟩
      have e5 : ms_I (ms_sI (ms_sI w171 264 (sp_nh D S w) (nI (sp_na D S w))) 261 (w * 12 + S 2 w) 0) 263 (sp_nh D S w) = nI (S 5 (sp_nh D S w) + 1) := by subst e171; simp [I_sI]
      rw [e5]
      have hM2 : sp_M (ms_sI (ms_sI w171 264 (sp_nh D S w) (nI (sp_na D S w))) 261 (w * 12 + S 2 w) 0) 235 D := sp_M_eq (fun b => by rw [I_sI, if_neg (by omega)]) hM1
      refine m_visit hV hM2 hh (by omega) (fun v hI hJ => ⟨vw, fun q => absurd q (by decide), fun _ w246 e246 => ?_⟩)
      have hFv : mm_F u0 v := mm_I (mm_w hF1 (by omega)) hI hJ
      subst e246
      refine hp _ (mm_w (mm_w hFv (by omega)) (by omega)) ?_
      rw [go_ans (by omega) h2 h3 h4]
      have e9 : ms_I (ms_sI v 258 w (nI (sp_na D S w) + nI (sp_vis D l (sp_nh D S w) (D (56 + 7 * sp_nh D S w + 6)) (S 5 (sp_nh D S w) + 1)))) 233 24 ||| (1 : Int32) <<< (nI (sp_nh D S w) &&& 31) = nI (S 7 0 ||| 2 ^ sp_nh D S w) := by
        rw [b9, I_sI, if_neg (by omega), hI]
        subst e171
        simp only [I_sI]
        simp [g7, bt_or]
      rw [e9, nI_add]
      subst e171
      exact mid_2 hV hS hR hw hd hm (by simp only [I_sI, hI]; simp) (fun x hx => by simp only [I_sI, hI]; simp [hx]) (fun x => by simp only [I_sI, hI]; simp) (fun x => by simp only [I_sI, hI]; simp) (by simp only [I_sI, hI]; simp; rfl) (fun x hx => by simp only [I_sI, hI]; simp [hx]) (fun x => by simp only [I_sI, hI]; simp) (by simp only [I_sI, hI]; simp) (fun x hx => by simp only [I_sI, hI]; simp [hx]) (by simp only [I_sI, hI]; simp) (fun x hx => by simp only [I_sI, hI]; simp [hx]) (by simp only [I_sI, hI]; simp)
    · rw [if_neg h4]
      refine ⟨fun _ => ⟨va, fun _ => ⟨vw, fun _ => ?_, fun q => absurd rfl q⟩, fun q => absurd rfl q⟩, fun q => absurd rfl q⟩
      refine hp _ (mm_w (mm_w hF1 (by omega)) (by omega)) ?_
      rw [go_un (by omega) h2 h3 h4]
      rw [nI_1]
      subst e171
      exact mid_2 hV hS hR hw hd hm (by simp only [I_sI]; simp) (fun x hx => by simp only [I_sI]; simp [hx]) (fun x => by simp only [I_sI]; simp) (fun x => by simp only [I_sI]; simp) (by simp only [I_sI]; simp; rfl) (fun x hx => by simp only [I_sI]; simp [hx]) (fun x => by simp only [I_sI]; simp) (by simp only [I_sI]; simp) (fun x hx => by simp only [I_sI]; simp [hx]) (by simp only [I_sI]; simp) (fun x hx => by simp only [I_sI]; simp [hx]) (by simp only [I_sI]; simp [g7])
  refine ⟨va, va, fun q => absurd q f3, fun _ => ⟨vh, ?_⟩⟩
  rw [f5, f6, fd]
  refine pk_eq (S 5 (sp_nh D S w)) 2 (fun q2 => fr (Or.inl q2)) (fun q2 => ⟨vh, pk_eq (S 5 (sp_nh D S w)) 1 (fun q3 => ⟨vh, vi 5 1613, ?_⟩) (fun q3 => fg (by omega))⟩)
  rw [r6 (by omega)]
  exact le_sub (by omega) (by omega) (by omega) (fun q4 => fg (by omega)) (fun q4 => fr (Or.inr ⟨q3, by omega⟩))
/-- what is left to do -/
def sm_left (D : Nat → Nat) (S : Nat → Nat → Nat) : Nat → Nat
  | 0 => 0
  | j + 1 => sm_left D S j + (D (168 + 15 * j + 2) - S 2 j)
theorem go_2 {x : Nat} : sp_go D l S w 2 x = if x = w then S 2 w + 1 else S 2 x := by
  by_cases h1 : sp_wy D S w (sp_nh D S w) < 1000000
  · by_cases h2 : (S 7 0).testBit (sp_nh D S w) = true
    · rw [go_done h1 h2, up2]
    · have h2 : (S 7 0).testBit (sp_nh D S w) = false := by simpa using h2
      by_cases h3 : S 5 (sp_nh D S w) = 2 ∨ (S 5 (sp_nh D S w) = 1 ∧ sp_na D S w < S 6 (sp_nh D S w) + D 5)
      · rw [go_ref h1 h2 h3, up2]
      · by_cases h4 : D (56 + 7 * sp_nh D S w + 4) ≤ sp_na D S w ∧ sp_na D S w < D (56 + 7 * sp_nh D S w + 5)
        · rw [go_ans h1 h2 h3 h4, up2]
        · rw [go_un h1 h2 h3 h4, up2]
  · rw [go_far h1, up2]
theorem left_go : ∀ j, sm_left D (sp_go D l S w) j + (if w < j ∧ S 2 w < D (168 + 15 * w + 2) then 1 else 0) ≤ sm_left D S j
  | 0 => by simp [sm_left]
  | j + 1 => by
    have ih := left_go j
    unfold sm_left
    rw [go_2]
    by_cases q : j = w
    · subst q
      rw [if_pos rfl]
      rw [if_neg (by omega)] at ih
      by_cases q2 : S 2 j < D (168 + 15 * j + 2)
      · rw [if_pos ⟨by omega, q2⟩]; omega
      · rw [if_neg (by omega)]; omega
    · rw [if_neg q]
      by_cases q2 : w < j ∧ S 2 w < D (168 + 15 * w + 2)
      · rw [if_pos q2] at ih; rw [if_pos ⟨by omega, q2.2⟩]; omega
      · rw [if_neg q2] at ih; rw [if_neg (by omega)]; omega
theorem left_0 : ∀ j, sm_left D S j = 0 → ∀ i, i < j → ¬ S 2 i < D (168 + 15 * i + 2)
  | 0, _, i, hi => by omega
  | j + 1, h, i, hi => by
    unfold sm_left at h
    rcases (show i = j ∨ i < j by omega) with e | e
    · subst e; omega
    · exact left_0 j (by omega) i e
theorem m_sl (hV : sp_V D l) (hM : sp_M u0 235 D) (hW : fm_W u0 D) : ∀ (n : Nat) (S : Nat → Nat → Nat) (u : ms_St), sm_left D S (D 3) ≤ n → sm_V D S → mm_R u D S → mm_F u0 u → (∀ u', mm_F u0 u' → mm_R u' D (sp_sm D l n S) → pv u') → wp_X11_simulate_84 ms_E0 233 pv (n + 1) u (sm_pl (sp_nx D S (D 3))) := by
  have c3 := hV.1.2.2.2.1
  intro n
  induction n with
  | zero =>
    intro S u hl hS hR hF hp
    have hx : sp_nx D S (D 3) = 0 := by
      rcases nx_up (D := D) (S := S) (D 3) with ⟨h1, _⟩ | ⟨j, h1, _, h3, h4, _⟩
      · exact h1
      · exact absurd h4 (left_0 _ (by omega) j h3)
    unfold wp_X11_simulate_84
    rw [hx]
    exact ⟨fun _ => hp u hF hR, fun q => absurd NO_lt q⟩
  | succ n ih =>
    intro S u hl hS hR hF hp
    have hx := nx_le (D := D) (S := S) (D 3)
    unfold sp_sm at hp
    unfold wp_X11_simulate_84
    refine pl_lt (by omega) (fun q => ?_) (fun j q => ?_)
    · rw [if_pos q] at hp
      exact hp u hF hR
    · rw [if_neg (by omega)] at hp
      rw [q, Nat.add_sub_cancel] at hp
      rw [q, pl_s]
      rcases nx_up (D := D) (S := S) (D 3) with ⟨h1, _⟩ | ⟨i, h1, _, h3, h4, _⟩
      · omega
      have e : i = j := by omega
      subst e
      refine m_go hV (mm_M hF hM) (mm_W hF hV.1.1 hW) hS hR h3 h4 hF (fun u' hF' hR' => ?_)
      have hS' := sm_V_go hV hS h3 h4
      have hl' := left_go (D := D) (l := l) (S := S) (w := i) (D 3)
      rw [if_pos ⟨h3, h4⟩] at hl'
      exact m_nextWalker hV (mm_M hF' hM) (mm_W hF' hV.1.1 hW) hS' hR' (ih _ u' (by omega) hS' hR' hF' hp)
theorem left_le (hV : sp_V D l) : ∀ j, j ≤ D 3 → sm_left D S j ≤ 12 * j
  | 0, _ => by simp [sm_left]
  | j + 1, hj => by
    have ih := left_le hV j (by omega)
    have := (hV.2.2.2.1 j (by omega)).2.2.1
    unfold sm_left
    omega
/-- the frame of a whole simulation -/
def mz_F (u0 u : ms_St) : Prop := (∀ a b, ¬ (247 ≤ a ∧ a ≤ 264) → ¬ (a = 233 ∧ b = 24) → ms_I u a b = ms_I u0 a b) ∧ ∀ a, a ≠ 257 → ms_J u a = ms_J u0 a
theorem m_s32 (hV : sp_V D l) (hM : sp_M u0 235 D) (hW : fm_W u0 D) (hp : ∀ u', mm_F u0 u' → mm_R u' D (sp_S D l) → pv u') : ∀ m j u, j + m = D 3 → mm_F u0 u → (∀ w, w < j → ms_I u 258 w = nI (sp_S0 D 0 w) ∧ ms_I u 259 w = NO ∧ ms_I u 260 w = nI 0) → (∀ h, h < 16 → ms_I u 263 h = nI 0) → ms_I u 233 24 = nI 0 → wp_X11_simulate_32 ms_E0 233 pv (m + 1) u (nI j) := by
  have c3 := hV.1.2.2.2.1
  intro m
  induction m with
  | zero =>
    intro j u hj hF h1 h2 h3
    have e : j = D 3 := by omega
    subst e
    have hM' := mm_M hF hM
    have hR : mm_R u D (sp_S0 D) := ⟨fun w hw => ⟨(h1 w hw).1, (h1 w hw).2.1, (h1 w hw).2.2, fun k hk => by simp [sp_S0] at hk⟩, fun h hh => ⟨h2 h hh, fun q => by simp [sp_S0] at q⟩, h3⟩
    unfold wp_X11_simulate_32
    rw [at_233_8, show Int32.toNatClampNeg 3 = 3 from rfl, hM' 3 (by omega)]
    refine ⟨vi 3 1613, fun _ => ?_, fun q => absurd (nI_le (Nat.le_refl _) (by omega)) q⟩
    have hl := left_le (S := sp_S0 D) hV (D 3) (Nat.le_refl _)
    exact m_nextWalker hV hM' (mm_W hF hV.1.1 hW) (sm_V0 hV) hR ⟨37, m_sl hV hM hW 36 (sp_S0 D) u (by omega) (sm_V0 hV) hR hF hp⟩
  | succ m ih =>
    intro j u hj hF h1 h2 h3
    have hM' := mm_M hF hM
    have kj : (nI j).toNatClampNeg = j := nI_clamp (by omega)
    have vj : vp_in (nI j) 3 := vp_in_nI (by omega) (by omega)
    unfold wp_X11_simulate_32 wp_X11_walker
    dsimp only
    rw [at_233_8, at_233_17, at_233_18, at_233_19, show Int32.toNatClampNeg 3 = 3 from rfl, hM' 3 (by omega), kj, show (1 : Int32) = nI 1 from rfl, ixW, nI_clamp (show 168 + 15 * j + 1 < 2 ^ 31 by omega), hM' _ (show 168 + 15 * j + 1 < 1613 by omega), nI_add]
    refine ⟨vi 3 1613, fun q => absurd q (nI_ge (by omega) (by omega)), fun _ => ⟨vp_in_nI (by omega) (by omega), vj, fun w58 e58 => ⟨vj, vj, fun w72 e72 => ?_⟩⟩⟩
    subst e58
    subst e72
    refine ih (j + 1) _ (by omega) (mm_w (mm_w (mm_w hF (by omega)) (by omega)) (by omega)) (fun w hw => ?_) (fun h hh => by simp only [I_sI]; simp [h2 h hh]) (by simp only [I_sI]; simp [h3])
    by_cases q : w = j
    · subst q
      simp only [I_sI]
      simp [sp_S0]
      exact ⟨rfl, rfl⟩
    · have := h1 w (by omega)
      simp only [I_sI]
      simp [q]
      exact this
theorem m_simulate (hV : sp_V D l) (hM : sp_M u 235 D) (hp : ∀ u', mz_F u u' → mm_R u' D (sp_S D l) → pv u') : wp_X11_simulate ms_E0 u 233 pv := by
  unfold wp_X11_simulate
  refine m_findWays hV hM (fun u1 h1 => ⟨17, ?_⟩)
  have hM1 : sp_M (ms_sI u1 233 24 0) 235 D := M_t (fw_M h1.1 hM) (by decide)
  have hW1 : fm_W (ms_sI u1 233 24 0) D := fun a b ha hb => by rw [I_sI, if_neg (by omega)]; exact h1.2 a b ha hb
  have hz : ∀ {v}, mm_F (ms_sI u1 233 24 0) v → mz_F u v := fun {v} q => ⟨fun a b n1 n2 => by rw [q.1 a b (by omega) n2, I_sI, if_neg n2]; exact h1.1.1 a b (by omega), fun a n1 => by rw [q.2 a n1]; exact congrFun h1.1.2 a⟩
  have st : ∀ m j v, j + m = 16 → mm_F (ms_sI u1 233 24 0) v → ms_I v 233 24 = nI 0 → (∀ h, h < j → ms_I v 263 h = nI 0) → wp_X11_simulate_11 ms_E0 233 pv (m + 1) v (nI j) := by
    intro m
    induction m with
    | zero =>
      intro j v hj hF h3 h2
      have e : j = 16 := by omega
      subst e
      unfold wp_X11_simulate_11
      exact ⟨fun _ => ⟨D 3 + 1, m_s32 hV hM1 hW1 (fun u' a b => hp u' (hz a) b) (D 3) 0 v (by omega) hF (fun w hw => by omega) h2 h3⟩, fun q => absurd (nI_le (a := 16) (b := 16) (by omega) (by omega)) q⟩
    | succ m ih =>
      intro j v hj hF h3 h2
      unfold wp_X11_simulate_11
      rw [at_233_22, nI_clamp (show j < 2 ^ 31 by omega), nI_1]
      refine ⟨fun q => absurd q (nI_ge (a := j) (b := 16) (by omega) (by omega)), fun _ => ⟨vp_in_nI (by omega) (by omega), ih (j + 1) _ (by omega) (mm_w hF (by omega)) (by rw [I_sI, if_neg (by omega)]; exact h3) (fun h hh => ?_)⟩⟩
      rw [I_sI]
      by_cases q : h = j
      · rw [if_pos ⟨rfl, q⟩]; rfl
      · rw [if_neg (by omega)]; exact h2 h (by omega)
  exact st 16 0 _ (by omega) mm_refl (by rw [I_sI, if_pos ⟨rfl, rfl⟩]; rfl) (fun h hh => by omega)
end SM
