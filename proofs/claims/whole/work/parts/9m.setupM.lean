/-! ===== the reference reads a setup text ===== -/
def mg_F (u0 u : ms_St) : Prop := (∀ a b, a ≠ 236 → ¬ (a = 233 ∧ (b = 4 ∨ b = 5 ∨ b = 6 ∨ b = 12 ∨ b = 13 ∨ b = 14)) → ms_I u a b = ms_I u0 a b) ∧ ms_J u = ms_J u0
def mb (u0 : ms_St) (e : Nat × Nat) (u : ms_St) : Prop := mg_F u0 u ∧ ms_I u 233 5 = er e.1 ∧ ms_I u 233 6 = nI e.2
def mz (u0 u : ms_St) (B : Nat → Nat) (N q : Nat) (D : Nat → Nat) : Prop := mg_F u0 u ∧ mp u B N q ∧ (ms_I u 233 5 = 0 ∧ ms_I u 233 6 = -1) ∧ ms_I u 233 13 = nI 0 ∧ ms_I u 233 14 = nI (D 2000 + 2 * D 2001 + 4 * D 6) ∧ sp_M u 236 D
def mq_P (u0 : ms_St) (B : Nat → Nat) (N : Nat) (pv : ms_St → Prop) : ms_ZZ → Prop
  | Sum.inl e => ∀ u', mb u0 e u' → pv u'
  | Sum.inr x => ∀ u', mz u0 u' B N x.1 x.2.1 → pv u'
section MS
variable {B : Nat → Nat} {N q : Nat} {D : Nat → Nat} {l : List ms_Op} {u u0 : ms_St} {pv : ms_St → Prop} {post : Int32 → ms_St → Prop} {e : Nat × Nat} {a1 a2 : Int32}
theorem mg_nf {u1 : ms_St} (hF : mg_F u0 u) (h : nf u u1) : mg_F u0 u1 := ⟨fun a b q1 q2 => (h.1 a b (by omega)).trans (hF.1 a b q1 q2), h.2.trans hF.2⟩
theorem mg_w {b : Nat} {x : Int32} (hF : mg_F u0 u) (hb : b = 4 ∨ b = 5 ∨ b = 6 ∨ b = 12 ∨ b = 13 ∨ b = 14) : mg_F u0 (ms_sI u 233 b x) := ⟨fun a c q1 q2 => by rw [I_sI, if_neg (by omega)]; exact hF.1 a c q1 q2, hF.2⟩
theorem mg_6 {b : Nat} {x : Int32} (hF : mg_F u0 u) : mg_F u0 (ms_sI u 236 b x) := ⟨fun a c q1 q2 => by rw [I_sI, if_neg (by omega)]; exact hF.1 a c q1 q2, hF.2⟩
theorem bt_mg (hF : mg_F u0 u) (hB : bt_M u0 B N) : bt_M u B N := ⟨hB.1, by rw [hF.1 233 3 (by omega) (by omega)]; exact hB.2.1, fun k hk => by rw [hF.1 234 k (by omega) (by omega)]; exact hB.2.2 k hk⟩
theorem mb_b (h : mb u0 e u) : ¬ ms_I u 233 5 = 0 := by rw [h.2.1]; exact er_0
theorem mb_w {k : Nat} {v : Int32} (h : mb u0 e u) : mb u0 e (ms_sI u 236 k v) := ⟨mg_6 h.1, by rw [I_sI, if_neg (by omega)]; exact h.2.1, by rw [I_sI, if_neg (by omega)]; exact h.2.2⟩
theorem mb_14 {v : Int32} (h : mb u0 e u) : mb u0 e (ms_sI u 233 14 v) := ⟨mg_w h.1 (by omega), by rw [I_sI, if_neg (by omega)]; exact h.2.1, by rw [I_sI, if_neg (by omega)]; exact h.2.2⟩
theorem mz_w {k v : Nat} (h : mz u0 u B N q D) (hk : k < 1613) (h6 : k ≠ 6) : mz u0 (ms_sI u 236 k (nI v)) B N q (sp_u D k v) := by
  obtain ⟨g1, ⟨p1, P, p2, p3, p4⟩, g3, g4, g5, g6⟩ := h
  have K : ∀ b, ms_I (ms_sI u 236 k (nI v)) 233 b = ms_I u 233 b := fun b => by rw [I_sI, if_neg (by omega)]
  refine ⟨mg_6 g1, ⟨p1, P, p2, by rw [K]; exact p3, p4⟩, by rw [K, K]; exact g3, by rw [K]; exact g4, ?_, fun x hx => ?_⟩
  · rw [K, u_at, if_neg (by omega), u_at, if_neg (by omega), u_at, if_neg (by omega)]; exact g5
  · rw [h2_at, u_at]
    by_cases z : x = k
    · rw [if_pos z, if_pos z]
    · rw [if_neg z, if_neg z]; exact g6 x hx
theorem mz_e {D' : Nat → Nat} (h : mz u0 u B N q D) (he : D = D') : mz u0 u B N q D' := he ▸ h
theorem m_rep {c o : Nat} {z : Int32} (hz : mz u0 u B N q D) (ez : z = er c) (hp : ∀ u', mb u0 (c, o) u' → pv u') : wp_X11_report ms_E0 u 233 z (nI o) pv := by
  refine r_yes hz.2.2.1.1 (hp _ ⟨mg_w (mg_w hz.1 (by omega)) (by omega), ?_, ?_⟩)
  · rw [I_sI, if_neg (by omega), I_sI, if_pos ⟨rfl, rfl⟩]; exact ez
  · rw [I_sI, if_pos ⟨rfl, rfl⟩]
theorem mN {lo hx : Nat} {po : Int32 → ms_St → Prop} (hB : bt_M u0 B N) (hz : mz u0 u B N q D) (hlo : lo ≤ 100000) (hhx : hx ≤ 100000) (e1 : a1 = nI lo) (e2 : a2 = nI hx - 1) (k : Nat → Nat → ms_ZZ) (hp : mq_P u0 B N pv (pz_nb (pz_n B N q lo hx) k)) (hno : ∀ e r v, mb u0 e v → (∀ u', mb u0 e u' → pv u') → po r v) (hok : ∀ v q', pz_n B N q lo hx = Sum.inr (v, q') → mq_P u0 B N pv (k v q') → ∀ u', mz u0 u' B N q' D → ms_I u' 233 12 = nI q → po (nI v) u') : wp_X11_number ms_E0 u 233 a1 a2 po := by
  obtain ⟨g1, g2, g3, g4, g5, g6⟩ := hz
  refine m_number (bt_mg g1 hB) g2 g3.1 hlo hhx e1 e2 (fun c hc r u2 hn h5 h6 => ?_) (fun v q' hc u2 hn h5 hm2 h12 => ?_)
  · rw [hc] at hp
    exact hno (c, q) r u2 ⟨mg_nf g1 hn, h5, h6⟩ hp
  · rw [hc] at hp
    refine hok v q' hc hp u2 ⟨mg_nf g1 hn, hm2, ⟨h5.1, h5.2.trans g3.2⟩, by rw [hn.1 233 13 (by omega)]; exact g4, by rw [hn.1 233 14 (by omega)]; exact g5, fun k hk => by rw [hn.1 236 k (by omega)]; exact g6 k hk⟩ h12
theorem m_streetR {r1 : Nat} (hB : bt_M u0 B N) (hz : mz u0 u B N r1 D) (hd : pw D l) (hp : mq_P u0 B N pv (if D 1 = 12 then Sum.inl (4, q) else pz_st B N r1 D l)) : wp_X11_readStreet ms_E0 u 233 (nI q) pv := by
  have c0 := hd.1.2.1
  have c1 := hd.1.2.2.1
  have M := hz.2.2.2.2.2
  have l0 : Int32.toNatClampNeg 0 = 0 := rfl
  have l1 : Int32.toNatClampNeg 1 = 1 := rfl
  have i1 : nI (8 + 4 * D 1) + 1 = nI (8 + 4 * D 1 + 1) := nI_1 _
  have i2 : nI (8 + 4 * D 1) + 2 = nI (8 + 4 * D 1 + 2) := by rw [lit_I 2, nI_add]
  have k0 : Int32.toNatClampNeg (nI (8 + 4 * D 1)) = 8 + 4 * D 1 := nI_clamp (by omega)
  have k1 : Int32.toNatClampNeg (nI (8 + 4 * D 1 + 1)) = 8 + 4 * D 1 + 1 := nI_clamp (by omega)
  have k2 : Int32.toNatClampNeg (nI (8 + 4 * D 1 + 2)) = 8 + 4 * D 1 + 2 := nI_clamp (by omega)
  unfold wp_X11_readStreet wp_X11_readStreet_18 wp_X11_readStreet_103
  rw [at_233_9, l0, l1, M 1 (by omega)]
  refine ⟨vi 1 1613, pk_eq (D 1) 12 (fun h => ?_) (fun h => ?_)⟩
  · rw [if_pos h] at hp
    exact m_rep (c := 4) hz rfl (fun u1 h1 => g_no (mb_b h1) ⟨fun _ => hp u1 h1, fun z => absurd rfl z⟩)
  · rw [if_neg h] at hp
    refine g_yes hz.2.2.1.1 ⟨fun z => absurd z (by decide), fun _ => ⟨vi 1 1613, ?_⟩⟩
    unfold wp_X11_street
    dsimp only
    have w0 : vp_in (nI (8 + 4 * D 1)) 1613 := vp_in_nI (by omega) (by omega)
    have w1 : vp_in (nI (8 + 4 * D 1 + 1)) 1613 := vp_in_nI (by omega) (by omega)
    have w2 : vp_in (nI (8 + 4 * D 1 + 2)) 1613 := vp_in_nI (by omega) (by omega)
    rw [M 1 (by omega), M 0 (by omega), ixS0, i1, i2, k0, k1, k2]
    unfold pz_st at hp
    refine ⟨vi 0 1613, mN (lo := 0) (hx := D 0) hB hz (by omega) (by omega) rfl rfl _ hp (fun e r v hv hq => ⟨w0, vi 0 1613, b_number (mb_b (mb_w hv)) ⟨w1, w0, w1, ?_⟩⟩) (fun a q2 n1 hp u2 hz2 _ => ⟨w0, vi 0 1613, ?_⟩)⟩
    · have hv2 := mb_w (k := 8 + 4 * D 1 + 1) (v := 0) (mb_w (k := 8 + 4 * D 1) (v := r) hv)
      exact ⟨fun _ => r_no (mb_b hv2) (b_number (mb_b hv2) ⟨w2, vi 1 1613, vi 1 1613, fun w ew => hq w (by rw [ew]; exact mb_w (mb_w hv2))⟩), fun _ => b_number (mb_b hv2) ⟨w2, vi 1 1613, vi 1 1613, fun w ew => hq w (by rw [ew]; exact mb_w (mb_w hv2))⟩⟩
    have hz3 := mz_w (k := 8 + 4 * D 1) (v := a) hz2 (by omega) (by omega)
    rw [h2_at, if_neg (by omega), hz2.2.2.2.2.2 0 (by omega)]
    refine mN (lo := 0) (hx := D 0) hB hz3 (by omega) (by omega) rfl rfl _ hp (fun e r v hv hq => ⟨w1, w0, w1, ?_⟩) (fun b q3 n2 hp u3 hz4 h12 => ⟨w1, w0, w1, ?_⟩)
    · have hv2 := mb_w (k := 8 + 4 * D 1 + 1) (v := r) hv
      exact ⟨fun _ => r_no (mb_b hv2) (b_number (mb_b hv2) ⟨w2, vi 1 1613, vi 1 1613, fun w ew => hq w (by rw [ew]; exact mb_w (mb_w hv2))⟩), fun _ => b_number (mb_b hv2) ⟨w2, vi 1 1613, vi 1 1613, fun w ew => hq w (by rw [ew]; exact mb_w (mb_w hv2))⟩⟩
    have hz5 := mz_w (k := 8 + 4 * D 1 + 1) (v := b) hz4 (by omega) (by omega)
    have ha := (n_ok hz2.2.1.1 n2).2.2.2.2.1
    have ha0 := (n_ok hz.2.1.1 n1).2.2.2.2.1
    rw [hz5.2.2.2.2.2 (8 + 4 * D 1) (by omega), hz5.2.2.2.2.2 (8 + 4 * D 1 + 1) (by omega), u_at, if_neg (by omega), u_at, if_pos rfl, u_at, if_pos rfl, h1_at (by omega), h12]
    refine pk_eq a b (fun hab => ?_) (fun hab => ?_)
    · rw [if_pos hab.symm] at hp
      refine m_rep (c := 3) hz5 rfl (fun u6 hv => b_number (mb_b hv) ⟨w2, vi 1 1613, vi 1 1613, fun w ew => hp w (by rw [ew]; exact mb_w (mb_w hv))⟩)
    · rw [if_neg (fun z => hab z.symm)] at hp
      refine mN (lo := 1) (hx := 100) hB hz5 (by omega) (by omega) rfl rfl _ hp (fun e r v hv hq => ⟨w2, vi 1 1613, vi 1 1613, fun w ew => hq w (by rw [ew]; exact mb_w (mb_w hv))⟩) (fun c q4 n3 hp u6 hz6 _ => ⟨w2, vi 1 1613, vi 1 1613, fun w ew => ?_⟩)
      have hz7 := mz_w (k := 8 + 4 * D 1 + 2) (v := c) hz6 (by omega) (by omega)
      have e1 : ms_I (ms_sI u6 236 (8 + 4 * D 1 + 2) (nI c)) 236 1 + 1 = nI (D 1 + 1) := by
        rw [hz7.2.2.2.2.2 1 (by omega), u_at, if_neg (by omega), u_at, if_neg (by omega), u_at, if_neg (by omega), nI_1]
      rw [e1] at ew
      refine hp w (mz_e (ew ▸ mz_w (k := 1) (v := D 1 + 1) hz7 (by omega) (by omega)) ?_)
      funext k
      show _ = st_D D a b c k
      unfold st_D
      simp only [u_at]
      repeat' split
      all_goals first | rfl | (exfalso; omega)
theorem m_walkerR {r1 : Nat} (hB : bt_M u0 B N) (hz : mz u0 u B N r1 D) (hd : pw D l) (hp : mq_P u0 B N pv (if D 3 = 3 then Sum.inl (4, q) else pz_wa B N r1 D l)) : wp_X11_readWalker ms_E0 u 233 (nI q) pv := by
  have c0 := hd.1.2.1
  have c3 := hd.1.2.2.2.2.1
  have M := hz.2.2.2.2.2
  have l0 : Int32.toNatClampNeg 0 = 0 := rfl
  have l3 : Int32.toNatClampNeg 3 = 3 := rfl
  have i1 : nI (168 + 15 * D 3) + 1 = nI (168 + 15 * D 3 + 1) := nI_1 _
  have k0 : Int32.toNatClampNeg (nI (168 + 15 * D 3)) = 168 + 15 * D 3 := nI_clamp (by omega)
  have k1 : Int32.toNatClampNeg (nI (168 + 15 * D 3 + 1)) = 168 + 15 * D 3 + 1 := nI_clamp (by omega)
  unfold wp_X11_readWalker wp_X11_readWalker_17
  rw [at_233_9, l0, l3, M 3 (by omega)]
  refine ⟨vi 3 1613, pk_eq (D 3) 3 (fun h => ?_) (fun h => ?_)⟩
  · rw [if_pos h] at hp
    exact m_rep (c := 4) hz rfl (fun u1 h1 => g_no (mb_b h1) ⟨fun _ => hp u1 h1, fun z => absurd rfl z⟩)
  · rw [if_neg h] at hp
    refine g_yes hz.2.2.1.1 ⟨fun z => absurd z (by decide), fun _ => ⟨vi 3 1613, ?_⟩⟩
    unfold wp_X11_walker
    dsimp only
    have w0 : vp_in (nI (168 + 15 * D 3)) 1613 := vp_in_nI (by omega) (by omega)
    have w1 : vp_in (nI (168 + 15 * D 3 + 1)) 1613 := vp_in_nI (by omega) (by omega)
    rw [M 3 (by omega), M 0 (by omega), ixW0, i1, k0, k1]
    unfold pz_wa at hp
    refine ⟨vi 0 1613, mN (lo := 0) (hx := D 0) hB hz (by omega) (by omega) rfl rfl _ hp (fun e r v hv hq => ⟨w0, b_number (mb_b (mb_w hv)) ⟨w1, vi 3 1613, vi 3 1613, fun w ew => hq w (by rw [ew]; exact mb_w (mb_w (mb_w hv)))⟩⟩) (fun a q2 n1 hp u2 hz2 _ => ⟨w0, ?_⟩)⟩
    have hz3 := mz_w (k := 168 + 15 * D 3) (v := a) hz2 (by omega) (by omega)
    refine mN (lo := 0) (hx := 1441) hB hz3 (by omega) (by omega) rfl rfl _ hp (fun e r v hv hq => ⟨w1, vi 3 1613, vi 3 1613, fun w ew => hq w (by rw [ew]; exact mb_w (mb_w hv))⟩) (fun b q3 n2 hp u3 hz4 h12 => ⟨w1, vi 3 1613, vi 3 1613, fun w ew => ?_⟩)
    have hz7 := mz_w (k := 168 + 15 * D 3 + 1) (v := b) hz4 (by omega) (by omega)
    have e1 : ms_I (ms_sI u3 236 (168 + 15 * D 3 + 1) (nI b)) 236 3 + 1 = nI (D 3 + 1) := by
      rw [hz7.2.2.2.2.2 3 (by omega), u_at, if_neg (by omega), u_at, if_neg (by omega), nI_1]
    rw [e1] at ew
    refine hp w (mz_e (ew ▸ mz_w (k := 3) (v := D 3 + 1) hz7 (by omega) (by omega)) ?_)
    funext k
    show _ = wa_D D a b k
    unfold wa_D
    simp only [u_at]
    repeat' split
    all_goals first | rfl | (exfalso; omega)
end MS
