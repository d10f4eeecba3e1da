/-! ===== the reference reads a visit expression ===== -/
def dr (D : Nat → Nat) (r : List Nat) : Nat → Nat := fun k => if k = 7 then r.length else if 213 ≤ k ∧ k < 213 + r.length then r.getD (k - 213) 0 else D k
def dr_F (u : ms_St) (D : Nat → Nat) (r : List Nat) : Prop := ∀ k, k < 1613 → ms_I u 236 k = nI (dr D r k)
def mf_F (u0 u : ms_St) : Prop := (∀ a b, a ≠ 236 → ¬ (a = 233 ∧ (b = 4 ∨ b = 5 ∨ b = 6 ∨ b = 12 ∨ b = 13)) → ms_I u a b = ms_I u0 a b) ∧ ms_J u = ms_J u0
def mx (u0 u : ms_St) (B : Nat → Nat) (N : Nat) (D : Nat → Nat) (d q : Nat) (l : List ms_Op) : Prop := mf_F u0 u ∧ mp u B N q ∧ (ms_I u 233 5 = 0 ∧ ms_I u 233 6 = ms_I u0 233 6) ∧ ms_I u 233 13 = nI d ∧ dr_F u D (sp_fl l)
def mv_P (u0 : ms_St) (B : Nat → Nat) (N : Nat) (D : Nat → Nat) (d : Nat) (pv : ms_St → Prop) : ms_V → Prop
  | Sum.inl e => ∀ u', mf_F u0 u' → ms_I u' 233 5 = er e.1 → ms_I u' 233 6 = nI e.2 → pv u'
  | Sum.inr x => ∀ u', mx u0 u' B N D d x.1 x.2 → pv u'
theorem gdn_app {r : List Nat} {x d : Nat} {i : Nat} (h : i < r.length) : (r ++ [x]).getD i d = r.getD i d := by
  rw [List.getD_eq_getElem?_getD, List.getD_eq_getElem?_getD, List.getElem?_append_left h]
theorem gdn_last {r : List Nat} {x d : Nat} : (r ++ [x]).getD r.length d = x := by
  rw [List.getD_eq_getElem?_getD]
  simp
section ME
variable {B : Nat → Nat} {N q d h v : Nat} {D : Nat → Nat} {l : List ms_Op} {r : List Nat} {u u0 : ms_St} {pv : ms_St → Prop} {post : Int32 → ms_St → Prop} {a1 : Int32}
theorem b_emit (hg : ¬ ms_I u 233 5 = 0) (hp : pv u) : wp_X11_emit ms_E0 u 233 a1 pv := by
  unfold wp_X11_emit
  exact g_no hg ⟨fun _ => hp, fun z => absurd rfl z⟩
theorem m_emit (hg : ms_I u 233 5 = 0) (hr : dr_F u D r) (hl : r.length < 1400) (hp : ∀ u', fr 236 u u' → dr_F u' D (r ++ [v]) → pv u') : wp_X11_emit ms_E0 u 233 (nI v) pv := by
  have e7 : ms_I u 236 7 = nI r.length := by rw [hr 7 (by omega)]; rfl
  unfold wp_X11_emit
  refine g_yes hg ⟨fun z => absurd z (by decide), fun _ => ?_⟩
  rw [at_233_9, show Int32.toNatClampNeg 7 = 7 from rfl, e7, show (213 : Int32) = nI 213 from rfl, nI_add, nI_clamp (by omega)]
  refine ⟨vi 7 1613, vp_in_nI (by omega) (by omega), fun w24 e24 => ⟨vi 7 1613, vi 7 1613, fun w35 e35 => ?_⟩⟩
  have f7 : ms_I w24 236 7 + 1 = nI (r.length + 1) := by rw [e24, I_sI, if_neg (by omega), e7, nI_1]
  rw [f7] at e35
  refine hp w35 (by rw [e35, e24]; exact fr_w (fr_w ⟨fun _ _ _ => rfl, rfl⟩)) (fun k hk => ?_)
  rw [e35, e24, I_sI, I_sI]
  unfold dr
  rw [List.length_append]
  by_cases c : k = 7
  · rw [if_pos ⟨rfl, c⟩, if_pos c]; rfl
  · rw [if_neg (by omega), if_neg c]
    by_cases c2 : k = 213 + r.length
    · rw [if_pos ⟨rfl, c2⟩, if_pos (by simp; omega), c2, Nat.add_sub_cancel_left, gdn_last]
    · rw [if_neg (by omega), hr k hk]
      unfold dr
      rw [if_neg c]
      by_cases c3 : 213 ≤ k ∧ k < 213 + r.length
      · rw [if_pos c3, if_pos (by simp; omega), gdn_app (by omega)]
      · rw [if_neg c3, if_neg (by simp; omega)]
theorem mf_nf {u1 : ms_St} (hF : mf_F u0 u) (h : nf u u1) : mf_F u0 u1 := ⟨fun a b q1 q2 => (h.1 a b (by omega)).trans (hF.1 a b q1 q2), h.2.trans hF.2⟩
theorem mf_fr {u1 : ms_St} (hF : mf_F u0 u) (h : fr 236 u u1) : mf_F u0 u1 := ⟨fun a b q1 q2 => (h.1 a b q1).trans (hF.1 a b q1 q2), h.2.trans hF.2⟩
theorem mf_w {b : Nat} {x : Int32} (hF : mf_F u0 u) (hb : b = 4 ∨ b = 5 ∨ b = 6 ∨ b = 12 ∨ b = 13) : mf_F u0 (ms_sI u 233 b x) := ⟨fun a c q1 q2 => by rw [I_sI, if_neg (by omega)]; exact hF.1 a c q1 q2, hF.2⟩
theorem bt_mf (hF : mf_F u0 u) (hB : bt_M u0 B N) : bt_M u B N := ⟨hB.1, by rw [hF.1 233 3 (by omega) (by omega)]; exact hB.2.1, fun k hk => by rw [hF.1 234 k (by omega) (by omega)]; exact hB.2.2 k hk⟩
theorem dr_nf {u1 : ms_St} (h : nf u u1) (hr : dr_F u D r) : dr_F u1 D r := fun k hk => by rw [h.1 236 k (by omega)]; exact hr k hk
theorem mp_fr {u1 : ms_St} (h : fr 236 u u1) (hm : mp u B N q) : mp u1 B N q := by
  obtain ⟨a, P, b, c, e⟩ := hm
  exact ⟨a, P, b, by rw [h.1 233 4 (by omega)]; exact c, e⟩
theorem no_wd {w : List Nat} (hc : ∀ c ∈ w, 97 ≤ c ∧ c ≤ 122) (hl : 0 < w.length) (hd : ¬ (97 ≤ pz_at B N q ∧ pz_at B N q ≤ 122)) : ¬ pz_wd B N w q = true := by
  intro hw
  have := wd_run w q hc hw
  rw [ld_stop hd] at this
  omega
theorem m_factor {rec : ms_St → Nat → (ms_St → Prop) → Prop} {R : Nat → List ms_Op → ms_V} (hB0 : bt_M u0 B N) (hrec : d < 4 → ∀ q l h u pv, q ≤ N → h ≤ 2 * d + 2 → pj l q h → mx u0 u B N D (d + 1) q l → mv_P u0 B N D (d + 1) pv (R q l) → rec u 233 pv) (hbad : ∀ u pv, ¬ ms_I u 233 5 = 0 → pv u → rec u 233 pv) (hR : d < 4 → ∀ q l h, q ≤ N → h ≤ 2 * d + 2 → pj l q h → pi_ok B N (R q l) q h) (hd : d ≤ 4) (hh : h ≤ 2 * d + 2) (hj : pj l q h) (hx : mx u0 u B N D d q l) (hp : mv_P u0 B N D d pv (pz_fa B N R d q l)) : wp_X11_factor ms_E0 rec u 233 pv := by
  have hN := hB0.1
  obtain ⟨hF, hm, hG, h13, hdr⟩ := hx
  have hg := hG.1
  have hB := bt_mf hF hB0
  have hq := hm.1
  have hcnt := wr_cnt l 0 h hj.1
  have hlen := fl_len l
  have hj2 := hj.2
  have em : ∀ (k v : Nat) (u1 : ms_St) (q' : Nat), k ≤ 1 → mf_F u0 u1 → mp u1 B N q' → (ms_I u1 233 5 = 0 ∧ ms_I u1 233 6 = ms_I u0 233 6) → ms_I u1 233 13 = nI d → dr_F u1 D (sp_fl l) → mv_P u0 B N D d pv (Sum.inr (q', l ++ [(k, v)])) → wp_X11_emit ms_E0 u1 233 (nI k) (fun u157 => wp_X11_emit ms_E0 u157 233 (nI v) (fun u162 => pv u162)) := by
    intro k v u1 q' hk hF1 hm1 hg1 h131 hdr1 hp1
    refine m_emit hg1.1 hdr1 (by omega) (fun u2 hF2 hdr2 => m_emit (by rw [hF2.1 233 5 (by omega)]; exact hg1.1) hdr2 (by simp; omega) (fun u3 hF3 hdr3 => hp1 u3 ⟨mf_fr (mf_fr hF1 hF2) hF3, mp_fr hF3 (mp_fr hF2 hm1), ?_, ?_, ?_⟩))
    · exact g6_fr (g6_fr hg1 hF2) hF3
    · rw [hF3.1 233 13 (by omega), hF2.1 233 13 (by omega)]; exact h131
    · have : sp_fl (l ++ [(k, v)]) = sp_fl l ++ [k] ++ [v] := by
        rw [fl_app]
        unfold sp_fl
        rw [if_pos hk]
        unfold sp_fl
        simp
      rw [this]
      exact hdr3
  unfold pz_fa at hp
  unfold wp_X11_factor wp_X11_factor_129 wp_X11_factor_146 wp_X11_factor_157 wp_X11_factor_37
  refine g_yes hg ⟨fun z => absurd z (by decide), fun _ => m_next hB hm (fun v1 hF1 h41 => ?_)⟩
  have hFv := mf_nf hF (pf_nf hF1)
  have hBv := bt_mf hFv hB0
  have hG1 := g6_pf hG hF1
  have hg1 := hG1.1
  have h131 : ms_I v1 233 13 = nI d := by rw [hF1.1 233 13 (by omega)]; exact h13
  have hdr1 := dr_nf (pf_nf hF1) hdr
  have hne32 : pz_at B N q ≠ 32 := by
    obtain ⟨_, P, hP, _, hs⟩ := hm
    rw [← hs]
    exact s_ne hP
  have hm1 : mp v1 B N q := mp_at h41 hq hne32
  have nump : ∀ u1, pf v1 u1 → ms_I u1 233 4 = nI q → mv_P u0 B N D d pv (match pz_n B N q 0 10000 with | Sum.inl e => Sum.inl e | Sum.inr x => Sum.inr (x.2, l ++ [(0, x.1)])) → wp_X11_number ms_E0 u1 233 0 9999 (fun r139 u139 => ((0 : Int32) ≤ -1 → wp_X11_emit ms_E0 u139 233 1 (fun u157 => wp_X11_emit ms_E0 u157 233 r139 (fun u162 => pv u162))) ∧ (¬ (0 : Int32) ≤ -1 → wp_X11_emit ms_E0 u139 233 0 (fun u157 => wp_X11_emit ms_E0 u157 233 r139 (fun u162 => pv u162)))) := by
    intro u1 hFu h4u hp1
    have hF2 := mf_nf hFv (pf_nf hFu)
    refine m_number (lo := 0) (hx := 10000) (bt_mf hF2 hB0) (mp_at h4u hq hne32) (by rw [hFu.1 233 5 (by omega)]; exact hg1) (by omega) (by omega) rfl rfl (fun c hc r u2 hn h5 h6 => ?_) (fun v q' hc u2 hn h5 hm2 h12 => ?_)
    · rw [hc] at hp1
      have hb : ¬ ms_I u2 233 5 = 0 := by rw [h5]; exact er_0
      exact ⟨fun z => absurd z (by decide), fun _ => b_emit hb (b_emit hb (hp1 u2 (mf_nf hF2 hn) h5 h6))⟩
    · rw [hc] at hp1
      exact ⟨fun z => absurd z (by decide), fun _ => em 0 v u2 q' (by omega) (mf_nf hF2 hn) hm2 ⟨h5.1, h5.2.trans (g6_pf hG1 hFu).2⟩ (by rw [hn.1 233 13 (by omega), hFu.1 233 13 (by omega)]; exact h131) (dr_nf hn (dr_nf (pf_nf hFu) hdr1)) hp1⟩
  refine ⟨fun z => ?_, fun z => ?_⟩
  · have c1 : pz_at B N q = 40 := (mzb_eq (a := 40) (by omega)).mp z
    have hqN := sg (by omega) c1
    rw [if_pos c1] at hp
    rw [h131, h41]
    have ge := s_ge (B := B) (p := q + 1) (N := N) (by omega)
    refine pk_eq d 4 (fun hd4 => ?_) (fun hd4 => ?_)
    · rw [if_pos hd4] at hp
      refine r_yes hg1 (fun w54 e54 => ?_)
      have h5 : ms_I w54 233 5 = er 5 := by rw [e54, I_sI, if_neg (by omega), I_sI, if_neg (by omega), I_sI, if_neg (by omega), I_sI, if_pos ⟨rfl, rfl⟩]; rfl
      have h6 : ms_I w54 233 6 = nI q := by rw [e54, I_sI, if_neg (by omega), I_sI, if_neg (by omega), I_sI, if_pos ⟨rfl, rfl⟩]
      have hF5 : mf_F u0 w54 := by rw [e54]; exact mf_w (mf_w (mf_w (mf_w hFv (by omega)) (by omega)) (by omega)) (by omega)
      have hb : ¬ ms_I w54 233 5 = 0 := by rw [h5]; exact er_0
      refine hbad w54 _ hb (b_expect hb (hp _ (mf_w hF5 (by omega)) ?_ ?_))
      · rw [I_sI, if_neg (by omega)]; exact h5
      · rw [I_sI, if_neg (by omega)]; exact h6
    · rw [if_neg hd4] at hp
      intro w54 e54
      have e13 : ms_I (ms_sI v1 233 4 (nI q + 1)) 233 13 + 1 = nI (d + 1) := by rw [I_sI, if_neg (by omega), h131, nI_1]
      rw [e13, nI_1] at e54
      have hF5 : mf_F u0 w54 := by rw [e54]; exact mf_w (mf_w hFv (by omega)) (by omega)
      have x4 : ms_I w54 233 4 = nI (q + 1) := by rw [e54, I_sI, if_neg (by omega), I_sI, if_pos ⟨rfl, rfl⟩]
      have hx5 : mx u0 w54 B N D (d + 1) (pz_s B N (q + 1)) l := by
        refine ⟨hF5, ⟨s_le (by omega), q + 1, by omega, x4, rfl⟩, ?_, ?_, fun k hk => ?_⟩
        · rw [e54]; exact g6_w (g6_w hG1 (by omega)) (by omega)
        · rw [e54, I_sI, if_pos ⟨rfl, rfl⟩]
        · rw [e54, I_sI, if_neg (by omega), I_sI, if_neg (by omega)]; exact hdr1 k hk
      refine hrec (by omega) _ l h w54 _ (s_le (by omega)) hh ⟨hj.1, by omega⟩ hx5 ?_
      cases hr : R (pz_s B N (q + 1)) l with
      | inl e =>
        rw [hr] at hp
        intro u2 b1 b2 b3
        have hb : ¬ ms_I u2 233 5 = 0 := by rw [b2]; exact er_0
        refine b_expect hb (hp _ (mf_w b1 (by omega)) ?_ ?_)
        · rw [I_sI, if_neg (by omega)]; exact b2
        · rw [I_sI, if_neg (by omega)]; exact b3
      | inr x =>
        rw [hr] at hp
        intro u2 hx2
        have hp : mv_P u0 B N D d pv (pz_x B N 41 x.1 x.2) := hp
        obtain ⟨y1, y2, y3, y4, y5⟩ := hx2
        unfold pz_x at hp
        refine m_expect (a := 41) (by omega) (bt_mf y1 hB0) y2 y3.1 (fun c u3 hF3 h43 => ?_) (fun c u3 hF3 h5 h6 => ?_)
        · rw [if_pos c] at hp
          have hxN := sg (by omega) c
          have e13 : ms_I u3 233 13 - 1 = nI d := by rw [hF3.1 233 13 (by omega), y4, nI_pred]
          rw [e13]
          refine hp _ ⟨mf_w (mf_nf y1 (pf_nf hF3)) (by omega), ⟨s_le (by omega), x.1 + 1, by omega, ?_, rfl⟩, ?_, ?_, fun k hk => ?_⟩
          · rw [I_sI, if_neg (by omega)]; exact h43
          · exact g6_w (g6_pf y3 hF3) (by omega)
          · rw [I_sI, if_pos ⟨rfl, rfl⟩]
          · rw [I_sI, if_neg (by omega), hF3.1 236 k (by omega)]; exact y5 k hk
        · rw [if_neg c] at hp
          refine hp _ (mf_w (mf_nf y1 hF3) (by omega)) ?_ ?_
          · rw [I_sI, if_neg (by omega)]; exact h5
          · rw [I_sI, if_neg (by omega)]; exact h6
  · have c1 : pz_at B N q ≠ 40 := fun y => z ((mzb_eq (a := 40) (by omega)).mpr y)
    rw [if_neg c1] at hp
    refine m_isDigit (at_b hBv) ?_
    by_cases cd : 48 ≤ pz_at B N q ∧ pz_at B N q ≤ 57
    · rw [if_neg (no_wd (wk_mem k9) (by decide) (by omega)), if_neg (no_wd (wk_mem k4) (by decide) (by omega)), if_neg (no_wd (wk_mem k10) (by decide) (by omega))] at hp
      rw [if_pos cd]
      exact ⟨fun y => absurd y (by decide), fun _ => ⟨fun y => absurd y (by decide), fun _ => nump v1 ⟨fun _ _ _ => rfl, rfl⟩ h41 hp⟩⟩
    · rw [if_neg cd]
      have wd1 : ∀ (u1 : ms_St) (w : List Nat) (v : Nat), pf v1 u1 → ms_I u1 233 4 = nI (q + w.length) → q + w.length ≤ N → mv_P u0 B N D d pv (Sum.inr (pz_s B N (q + w.length), l ++ [(1, v)])) → wp_X11_emit ms_E0 u1 233 (nI 1) (fun u157 => wp_X11_emit ms_E0 u157 233 (nI v) (fun u162 => pv u162)) := by
        intro u1 w v hFu h4u hle hp1
        exact em 1 v u1 _ (by omega) (mf_nf hFv (pf_nf hFu)) ⟨s_le hle, _, hle, h4u, rfl⟩ (g6_pf hG1 hFu) (by rw [hFu.1 233 13 (by omega)]; exact h131) (dr_nf (pf_nf hFu) hdr1) hp1
      have pft : ∀ {a b c : ms_St}, pf a b → pf b c → pf a c := fun h1 h2 => ⟨fun x y z => (h2.1 x y z).trans (h1.1 x y z), h2.2.trans h1.2⟩
      refine ⟨fun _ => m_takeWord k31 (by decide) hBv hm1 hg1 (fun c2 u1 hFu h4u => ?_) (fun c2 u1 hFu h4u => ?_), fun y => absurd rfl y⟩
      · rw [if_pos c2] at hp
        have hle := wd_pos hq (wk_mem k9) c2
        exact ⟨fun y => absurd y (by decide), fun _ => ⟨fun _ => ⟨fun _ => wd1 u1 w_persons 0 hFu h4u hle hp, fun y => absurd (by decide) y⟩, fun y => absurd (by decide) y⟩⟩
      · rw [if_neg c2] at hp
        refine ⟨fun _ => m_takeWord k26 (by decide) (bt_nf (pf_nf hFu) hBv) (mp_at h4u hq hne32) (by rw [hFu.1 233 5 (by omega)]; exact hg1) (fun c3 u2 hFu2 h4u2 => ?_) (fun c3 u2 hFu2 h4u2 => ?_), fun y => absurd rfl y⟩
        · rw [if_pos c3] at hp
          have hle := wd_pos hq (wk_mem k4) c3
          exact ⟨fun y => absurd y (by decide), fun _ => ⟨fun _ => ⟨fun _ => wd1 u2 w_dog 1 (pft hFu hFu2) h4u2 hle hp, fun y => absurd (by decide) y⟩, fun y => absurd (by decide) y⟩⟩
        · rw [if_neg c3] at hp
          refine ⟨fun _ => m_takeWord k32 (by decide) (bt_nf (pf_nf (pft hFu hFu2)) hBv) (mp_at h4u2 hq hne32) (by rw [hFu2.1 233 5 (by omega), hFu.1 233 5 (by omega)]; exact hg1) (fun c4 u3 hFu3 h4u3 => ?_) (fun c4 u3 hFu3 h4u3 => ?_), fun y => absurd rfl y⟩
          · rw [if_pos c4] at hp
            have hle := wd_pos hq (wk_mem k10) c4
            exact ⟨fun y => absurd y (by decide), fun _ => ⟨fun _ => ⟨fun _ => wd1 u3 w_call 2 (pft (pft hFu hFu2) hFu3) h4u3 hle hp, fun y => absurd (by decide) y⟩, fun y => absurd (by decide) y⟩⟩
          · rw [if_neg c4] at hp
            exact ⟨fun _ => ⟨fun y => absurd y (by decide), fun _ => nump u3 (pft (pft hFu hFu2) hFu3) h4u3 hp⟩, fun y => absurd rfl y⟩
theorem b_factor {rec : ms_St → Nat → (ms_St → Prop) → Prop} (hg : ¬ ms_I u 233 5 = 0) (hp : pv u) : wp_X11_factor ms_E0 rec u 233 pv := by
  unfold wp_X11_factor
  exact g_no hg ⟨fun _ => hp, fun z => absurd rfl z⟩
theorem b_term_loop {rec : ms_St → Nat → (ms_St → Prop) → Prop} {n : Nat} (hg : ¬ ms_I u 233 5 = 0) (hp : pv u) : wp_X11_term_4 ms_E0 rec 233 pv (n + 1) u := by
  unfold wp_X11_term_4 wp_X11_term_74
  exact g_no hg ⟨fun _ => hp, fun z => absurd rfl z⟩
theorem b_term {rec : ms_St → Nat → (ms_St → Prop) → Prop} (hg : ¬ ms_I u 233 5 = 0) (hp : pv u) : wp_X11_term ms_E0 rec u 233 pv := by
  unfold wp_X11_term
  exact b_factor hg ⟨1, b_term_loop hg hp⟩
theorem m_term_loop {rec : ms_St → Nat → (ms_St → Prop) → Prop} {R : Nat → List ms_Op → ms_V} (hB0 : bt_M u0 B N) (hrec : d < 4 → ∀ q l h u pv, q ≤ N → h ≤ 2 * d + 2 → pj l q h → mx u0 u B N D (d + 1) q l → mv_P u0 B N D (d + 1) pv (R q l) → rec u 233 pv) (hbad : ∀ u pv, ¬ ms_I u 233 5 = 0 → pv u → rec u 233 pv) (hR : d < 4 → ∀ q l h, q ≤ N → h ≤ 2 * d + 2 → pj l q h → pi_ok B N (R q l) q h) (hd : d ≤ 4) (hh : h ≤ 2 * d + 1) : ∀ n q l u, N - q < n → mx u0 u B N D d q l → wr l 0 (h + 1) → 2 * na l ≤ q + 1 → mv_P u0 B N D d pv (pz_tl B N (pz_fa B N R d) 42 47 4 5 n q l) → wp_X11_term_4 ms_E0 rec 233 pv (n + 1) u := by
  have hN := hB0.1
  intro n
  induction n with
  | zero => intro q l u h1; omega
  | succ n ih =>
    intro q l u h1 hx hw hn hp
    obtain ⟨hF, hm, hG, h13, hdr⟩ := hx
    have hg := hG.1
    have hB := bt_mf hF hB0
    have hq := hm.1
    have hne32 : pz_at B N q ≠ 32 := by
      obtain ⟨_, P, hP, _, hs⟩ := hm
      rw [← hs]
      exact s_ne hP
    rw [tl_s] at hp
    unfold wp_X11_term_4 wp_X11_term_29 wp_X11_term_43 wp_X11_term_68 wp_X11_term_74
    have nx : ∀ (u1 : ms_St), pf u u1 → ms_I u1 233 4 = nI q → ∀ (post : Int32 → ms_St → Prop), (∀ u2, pf u u2 → ms_I u2 233 4 = nI q → post (mzb (pz_at B N q)) u2) → wp_X11_next ms_E0 u1 233 post := by
      intro u1 hF1 h41 post hpost
      refine m_next (bt_nf (pf_nf hF1) hB) (mp_at h41 hq hne32) (fun u2 hF2 h42 => hpost u2 ⟨fun a b z => (hF2.1 a b z).trans (hF1.1 a b z), hF2.2.trans hF1.2⟩ h42)
    have body : ∀ (u1 : ms_St) (z : Int32) (k : Nat), (pz_at B N q = 42 ∨ pz_at B N q = 47) → pf u u1 → ms_I u1 233 4 = nI q → (if pz_at B N q = 42 then 4 else 5) = k → (2 ≤ k ∧ k ≤ 5) → ((z = 0 ∧ k = 5) ∨ (¬ z = 0 ∧ k = 4)) → wp_X11_factor ms_E0 rec (ms_sI u1 233 4 (ms_I u1 233 4 + 1)) 233 (fun u55 => (z = 0 → wp_X11_emit ms_E0 u55 233 5 (fun u68 => wp_X11_term_4 ms_E0 rec 233 pv (n + 1) u68)) ∧ (¬ z = 0 → wp_X11_emit ms_E0 u55 233 4 (fun u68 => wp_X11_term_4 ms_E0 rec 233 pv (n + 1) u68))) := by
      intro u1 z k hcc hF1 h41 hek hk hzk
      have hqN : q < N := by
        rcases hcc with y | y
        · exact sg (by omega) y
        · exact sg (by omega) y
      rw [if_pos hcc, hek] at hp
      rw [h41, nI_1]
      have ge := s_ge (B := B) (p := q + 1) (N := N) (by omega)
      have sel : ∀ u2, (wp_X11_emit ms_E0 u2 233 (nI k) (fun u68 => wp_X11_term_4 ms_E0 rec 233 pv (n + 1) u68)) → (z = 0 → wp_X11_emit ms_E0 u2 233 5 (fun u68 => wp_X11_term_4 ms_E0 rec 233 pv (n + 1) u68)) ∧ (¬ z = 0 → wp_X11_emit ms_E0 u2 233 4 (fun u68 => wp_X11_term_4 ms_E0 rec 233 pv (n + 1) u68)) := by
        intro u2 hs
        rcases hzk with ⟨y, e⟩ | ⟨y, e⟩
        · rw [e] at hs; exact ⟨fun _ => hs, fun y2 => absurd y y2⟩
        · rw [e] at hs; exact ⟨fun y2 => absurd y2 y, fun _ => hs⟩
      have hx1 : mx u0 (ms_sI u1 233 4 (nI (q + 1))) B N D d (pz_s B N (q + 1)) l := by
        refine ⟨mf_w (mf_nf hF (pf_nf hF1)) (by omega), ⟨s_le (by omega), q + 1, by omega, ?_, rfl⟩, ?_, ?_, fun k hk => ?_⟩
        · rw [I_sI, if_pos ⟨rfl, rfl⟩]
        · exact g6_w (g6_pf hG hF1) (by omega)
        · rw [I_sI, if_neg (by omega), hF1.1 233 13 (by omega)]; exact h13
        · rw [I_sI, if_neg (by omega), hF1.1 236 k (by omega)]; exact hdr k hk
      refine m_factor hB0 hrec hbad hR hd (h := h + 1) (by omega) ⟨hw, by omega⟩ hx1 ?_
      cases hr : pz_fa B N R d (pz_s B N (q + 1)) l with
      | inl e =>
        rw [hr] at hp
        intro u2 b1 b2 b3
        have hb : ¬ ms_I u2 233 5 = 0 := by rw [b2]; exact er_0
        exact sel u2 (b_emit hb (b_term_loop hb (hp u2 b1 b2 b3)))
      | inr x =>
        rw [hr] at hp
        intro u2 hx2
        have hp : mv_P u0 B N D d pv (pz_tl B N (pz_fa B N R d) 42 47 4 5 n x.1 (x.2 ++ [(k, 0)])) := hp
        obtain ⟨a1, a2, a3, a4, a5⟩ := fa_ok hR hd (s_le (show q + 1 ≤ N by omega)) (h := h + 1) (by omega) ⟨hw, by omega⟩ x.1 x.2 hr
        obtain ⟨j1, j2⟩ := pj_bi a4 hk
        have hcnt := wr_cnt _ _ _ a4
        have hlen := fl_len x.2
        obtain ⟨y1, y2, y3, y4, y5⟩ := hx2
        refine sel u2 (m_emit y3.1 y5 (by omega) (fun u3 hF3 hdr3 => ih x.1 _ u3 (by omega) ⟨mf_fr y1 hF3, mp_fr hF3 y2, ?_, ?_, ?_⟩ j1 (by rw [j2]; exact a5) hp))
        · exact g6_fr y3 hF3
        · rw [hF3.1 233 13 (by omega)]; exact y4
        · have : sp_fl (x.2 ++ [(k, 0)]) = sp_fl x.2 ++ [k] := by
            rw [fl_app]
            unfold sp_fl
            rw [if_neg (by omega)]
            unfold sp_fl
            simp
          rw [this]
          exact hdr3
    have stop : ¬ (pz_at B N q = 42 ∨ pz_at B N q = 47) → ∀ u2, pf u u2 → ms_I u2 233 4 = nI q → pv u2 := fun z u2 hF2 h42 => by
      rw [if_neg z] at hp
      exact hp u2 ⟨mf_nf hF (pf_nf hF2), mp_at h42 hq hne32, g6_pf hG hF2, by rw [hF2.1 233 13 (by omega)]; exact h13, dr_nf (pf_nf hF2) hdr⟩
    refine g_yes hg ⟨fun z => absurd z (by decide), fun _ => m_next hB hm (fun u1 hF1 h41 => ⟨fun z => ?_, fun z => ?_⟩)⟩
    · have c1 : pz_at B N q = 42 := (mzb_eq (a := 42) (by omega)).mp z
      exact nx u1 hF1 h41 _ (fun u2 hF2 h42 => ⟨fun _ => body u2 1 4 (Or.inl c1) hF2 h42 (if_pos c1) (by omega) (Or.inr ⟨by decide, rfl⟩), fun y => absurd z y⟩)
    · have c1 : ¬ pz_at B N q = 42 := fun y => z ((mzb_eq (a := 42) (by omega)).mpr y)
      refine nx u1 hF1 h41 _ (fun u2 hF2 h42 => ⟨fun z2 => ?_, fun z2 => ?_⟩)
      · have c2 : pz_at B N q = 47 := (mzb_eq (a := 47) (by omega)).mp z2
        exact nx u2 hF2 h42 _ (fun u3 hF3 h43 => ⟨fun y => absurd y z, fun _ => body u3 0 5 (Or.inr c2) hF3 h43 (if_neg c1) (by omega) (Or.inl ⟨rfl, rfl⟩)⟩)
      · have c2 : ¬ pz_at B N q = 47 := fun y => z2 ((mzb_eq (a := 47) (by omega)).mpr y)
        exact stop (fun y => y.elim c1 c2) u2 hF2 h42
theorem m_term {rec : ms_St → Nat → (ms_St → Prop) → Prop} {R : Nat → List ms_Op → ms_V} (hB0 : bt_M u0 B N) (hrec : d < 4 → ∀ q l h u pv, q ≤ N → h ≤ 2 * d + 2 → pj l q h → mx u0 u B N D (d + 1) q l → mv_P u0 B N D (d + 1) pv (R q l) → rec u 233 pv) (hbad : ∀ u pv, ¬ ms_I u 233 5 = 0 → pv u → rec u 233 pv) (hR : d < 4 → ∀ q l h, q ≤ N → h ≤ 2 * d + 2 → pj l q h → pi_ok B N (R q l) q h) (hd : d ≤ 4) (hh : h ≤ 2 * d + 1) (hj : pj l q h) (hx : mx u0 u B N D d q l) (hp : mv_P u0 B N D d pv (pz_te B N R d q l)) : wp_X11_term ms_E0 rec u 233 pv := by
  unfold pz_te at hp
  unfold wp_X11_term
  refine m_factor hB0 hrec hbad hR hd (by omega) hj hx ?_
  cases hr : pz_fa B N R d q l with
  | inl e =>
    rw [hr] at hp
    intro u2 b1 b2 b3
    exact ⟨1, b_term_loop (by rw [b2]; exact er_0) (hp u2 b1 b2 b3)⟩
  | inr x =>
    rw [hr] at hp
    intro u2 hx2
    obtain ⟨a1, a2, a3, a4, a5⟩ := fa_ok hR hd hx.2.1.1 (by omega) hj x.1 x.2 hr
    exact ⟨N + 1 + 1, m_term_loop hB0 hrec hbad hR hd hh (N + 1) x.1 x.2 u2 (by omega) hx2 a4 a5 hp⟩
theorem b_sum_loop {rec : ms_St → Nat → (ms_St → Prop) → Prop} {n : Nat} (hg : ¬ ms_I u 233 5 = 0) (hp : pv u) : wp_X11_sum_4 ms_E0 rec 233 pv (n + 1) u := by
  unfold wp_X11_sum_4 wp_X11_sum_74
  exact g_no hg ⟨fun _ => hp, fun z => absurd rfl z⟩
theorem b_sum {rec : ms_St → Nat → (ms_St → Prop) → Prop} (hg : ¬ ms_I u 233 5 = 0) (hp : pv u) : wp_X11_sum ms_E0 rec u 233 pv := by
  unfold wp_X11_sum
  exact b_term hg ⟨1, b_sum_loop hg hp⟩
theorem m_sum_loop {rec : ms_St → Nat → (ms_St → Prop) → Prop} {R : Nat → List ms_Op → ms_V} (hB0 : bt_M u0 B N) (hrec : d < 4 → ∀ q l h u pv, q ≤ N → h ≤ 2 * d + 2 → pj l q h → mx u0 u B N D (d + 1) q l → mv_P u0 B N D (d + 1) pv (R q l) → rec u 233 pv) (hbad : ∀ u pv, ¬ ms_I u 233 5 = 0 → pv u → rec u 233 pv) (hR : d < 4 → ∀ q l h, q ≤ N → h ≤ 2 * d + 2 → pj l q h → pi_ok B N (R q l) q h) (hd : d ≤ 4) (hh : h ≤ 2 * d) : ∀ n q l u, N - q < n → mx u0 u B N D d q l → wr l 0 (h + 1) → 2 * na l ≤ q + 1 → mv_P u0 B N D d pv (pz_tl B N (pz_te B N R d) 43 45 2 3 n q l) → wp_X11_sum_4 ms_E0 rec 233 pv (n + 1) u := by
  have hN := hB0.1
  intro n
  induction n with
  | zero => intro q l u h1; omega
  | succ n ih =>
    intro q l u h1 hx hw hn hp
    obtain ⟨hF, hm, hG, h13, hdr⟩ := hx
    have hg := hG.1
    have hB := bt_mf hF hB0
    have hq := hm.1
    have hne32 : pz_at B N q ≠ 32 := by
      obtain ⟨_, P, hP, _, hs⟩ := hm
      rw [← hs]
      exact s_ne hP
    rw [tl_s] at hp
    unfold wp_X11_sum_4 wp_X11_sum_29 wp_X11_sum_43 wp_X11_sum_68 wp_X11_sum_74
    have nx : ∀ (u1 : ms_St), pf u u1 → ms_I u1 233 4 = nI q → ∀ (post : Int32 → ms_St → Prop), (∀ u2, pf u u2 → ms_I u2 233 4 = nI q → post (mzb (pz_at B N q)) u2) → wp_X11_next ms_E0 u1 233 post := by
      intro u1 hF1 h41 post hpost
      refine m_next (bt_nf (pf_nf hF1) hB) (mp_at h41 hq hne32) (fun u2 hF2 h42 => hpost u2 ⟨fun a b z => (hF2.1 a b z).trans (hF1.1 a b z), hF2.2.trans hF1.2⟩ h42)
    have body : ∀ (u1 : ms_St) (z : Int32) (k : Nat), (pz_at B N q = 43 ∨ pz_at B N q = 45) → pf u u1 → ms_I u1 233 4 = nI q → (if pz_at B N q = 43 then 2 else 3) = k → (2 ≤ k ∧ k ≤ 5) → ((z = 0 ∧ k = 3) ∨ (¬ z = 0 ∧ k = 2)) → wp_X11_term ms_E0 rec (ms_sI u1 233 4 (ms_I u1 233 4 + 1)) 233 (fun u55 => (z = 0 → wp_X11_emit ms_E0 u55 233 3 (fun u68 => wp_X11_sum_4 ms_E0 rec 233 pv (n + 1) u68)) ∧ (¬ z = 0 → wp_X11_emit ms_E0 u55 233 2 (fun u68 => wp_X11_sum_4 ms_E0 rec 233 pv (n + 1) u68))) := by
      intro u1 z k hcc hF1 h41 hek hk hzk
      have hqN : q < N := by
        rcases hcc with y | y
        · exact sg (by omega) y
        · exact sg (by omega) y
      rw [if_pos hcc, hek] at hp
      rw [h41, nI_1]
      have ge := s_ge (B := B) (p := q + 1) (N := N) (by omega)
      have sel : ∀ u2, (wp_X11_emit ms_E0 u2 233 (nI k) (fun u68 => wp_X11_sum_4 ms_E0 rec 233 pv (n + 1) u68)) → (z = 0 → wp_X11_emit ms_E0 u2 233 3 (fun u68 => wp_X11_sum_4 ms_E0 rec 233 pv (n + 1) u68)) ∧ (¬ z = 0 → wp_X11_emit ms_E0 u2 233 2 (fun u68 => wp_X11_sum_4 ms_E0 rec 233 pv (n + 1) u68)) := by
        intro u2 hs
        rcases hzk with ⟨y, e⟩ | ⟨y, e⟩
        · rw [e] at hs; exact ⟨fun _ => hs, fun y2 => absurd y y2⟩
        · rw [e] at hs; exact ⟨fun y2 => absurd y2 y, fun _ => hs⟩
      have hx1 : mx u0 (ms_sI u1 233 4 (nI (q + 1))) B N D d (pz_s B N (q + 1)) l := by
        refine ⟨mf_w (mf_nf hF (pf_nf hF1)) (by omega), ⟨s_le (by omega), q + 1, by omega, ?_, rfl⟩, ?_, ?_, fun k hk => ?_⟩
        · rw [I_sI, if_pos ⟨rfl, rfl⟩]
        · exact g6_w (g6_pf hG hF1) (by omega)
        · rw [I_sI, if_neg (by omega), hF1.1 233 13 (by omega)]; exact h13
        · rw [I_sI, if_neg (by omega), hF1.1 236 k (by omega)]; exact hdr k hk
      refine m_term hB0 hrec hbad hR hd (h := h + 1) (by omega) ⟨hw, by omega⟩ hx1 ?_
      cases hr : pz_te B N R d (pz_s B N (q + 1)) l with
      | inl e =>
        rw [hr] at hp
        intro u2 b1 b2 b3
        have hb : ¬ ms_I u2 233 5 = 0 := by rw [b2]; exact er_0
        exact sel u2 (b_emit hb (b_sum_loop hb (hp u2 b1 b2 b3)))
      | inr x =>
        rw [hr] at hp
        intro u2 hx2
        have hp : mv_P u0 B N D d pv (pz_tl B N (pz_te B N R d) 43 45 2 3 n x.1 (x.2 ++ [(k, 0)])) := hp
        obtain ⟨a1, a2, a3, a4, a5⟩ := te_ok hR hd (s_le (show q + 1 ≤ N by omega)) (h := h + 1) (by omega) ⟨hw, by omega⟩ x.1 x.2 hr
        obtain ⟨j1, j2⟩ := pj_bi a4 hk
        have hcnt := wr_cnt _ _ _ a4
        have hlen := fl_len x.2
        obtain ⟨y1, y2, y3, y4, y5⟩ := hx2
        refine sel u2 (m_emit y3.1 y5 (by omega) (fun u3 hF3 hdr3 => ih x.1 _ u3 (by omega) ⟨mf_fr y1 hF3, mp_fr hF3 y2, ?_, ?_, ?_⟩ j1 (by rw [j2]; exact a5) hp))
        · exact g6_fr y3 hF3
        · rw [hF3.1 233 13 (by omega)]; exact y4
        · have : sp_fl (x.2 ++ [(k, 0)]) = sp_fl x.2 ++ [k] := by
            rw [fl_app]
            unfold sp_fl
            rw [if_neg (by omega)]
            unfold sp_fl
            simp
          rw [this]
          exact hdr3
    have stop : ¬ (pz_at B N q = 43 ∨ pz_at B N q = 45) → ∀ u2, pf u u2 → ms_I u2 233 4 = nI q → pv u2 := fun z u2 hF2 h42 => by
      rw [if_neg z] at hp
      exact hp u2 ⟨mf_nf hF (pf_nf hF2), mp_at h42 hq hne32, g6_pf hG hF2, by rw [hF2.1 233 13 (by omega)]; exact h13, dr_nf (pf_nf hF2) hdr⟩
    refine g_yes hg ⟨fun z => absurd z (by decide), fun _ => m_next hB hm (fun u1 hF1 h41 => ⟨fun z => ?_, fun z => ?_⟩)⟩
    · have c1 : pz_at B N q = 43 := (mzb_eq (a := 43) (by omega)).mp z
      exact nx u1 hF1 h41 _ (fun u2 hF2 h42 => ⟨fun _ => body u2 1 2 (Or.inl c1) hF2 h42 (if_pos c1) (by omega) (Or.inr ⟨by decide, rfl⟩), fun y => absurd z y⟩)
    · have c1 : ¬ pz_at B N q = 43 := fun y => z ((mzb_eq (a := 43) (by omega)).mpr y)
      refine nx u1 hF1 h41 _ (fun u2 hF2 h42 => ⟨fun z2 => ?_, fun z2 => ?_⟩)
      · have c2 : pz_at B N q = 45 := (mzb_eq (a := 45) (by omega)).mp z2
        exact nx u2 hF2 h42 _ (fun u3 hF3 h43 => ⟨fun y => absurd y z, fun _ => body u3 0 3 (Or.inr c2) hF3 h43 (if_neg c1) (by omega) (Or.inl ⟨rfl, rfl⟩)⟩)
      · have c2 : ¬ pz_at B N q = 45 := fun y => z2 ((mzb_eq (a := 45) (by omega)).mpr y)
        exact stop (fun y => y.elim c1 c2) u2 hF2 h42
theorem m_sum {rec : ms_St → Nat → (ms_St → Prop) → Prop} {R : Nat → List ms_Op → ms_V} (hB0 : bt_M u0 B N) (hrec : d < 4 → ∀ q l h u pv, q ≤ N → h ≤ 2 * d + 2 → pj l q h → mx u0 u B N D (d + 1) q l → mv_P u0 B N D (d + 1) pv (R q l) → rec u 233 pv) (hbad : ∀ u pv, ¬ ms_I u 233 5 = 0 → pv u → rec u 233 pv) (hR : d < 4 → ∀ q l h, q ≤ N → h ≤ 2 * d + 2 → pj l q h → pi_ok B N (R q l) q h) (hd : d ≤ 4) (hh : h ≤ 2 * d) (hj : pj l q h) (hx : mx u0 u B N D d q l) (hp : mv_P u0 B N D d pv (pz_su B N R d q l)) : wp_X11_sum ms_E0 rec u 233 pv := by
  unfold pz_su at hp
  unfold wp_X11_sum
  refine m_term hB0 hrec hbad hR hd (by omega) hj hx ?_
  cases hr : pz_te B N R d q l with
  | inl e =>
    rw [hr] at hp
    intro u2 b1 b2 b3
    exact ⟨1, b_sum_loop (by rw [b2]; exact er_0) (hp u2 b1 b2 b3)⟩
  | inr x =>
    rw [hr] at hp
    intro u2 hx2
    obtain ⟨a1, a2, a3, a4, a5⟩ := te_ok hR hd hx.2.1.1 (by omega) hj x.1 x.2 hr
    exact ⟨N + 1 + 1, m_sum_loop hB0 hrec hbad hR hd hh (N + 1) x.1 x.2 u2 (by omega) hx2 a4 a5 hp⟩
theorem b_sumS : ∀ k (u : ms_St) (pv : ms_St → Prop), 0 < k → ¬ ms_I u 233 5 = 0 → pv u → WP_X11_sum ms_E0 k u 233 pv
  | 0, _, _, h, _, _ => by omega
  | k + 1, u, pv, _, hg, hp => b_sum hg hp
theorem m_sumS (hB0 : bt_M u0 B N) : ∀ k d, k + d = 6 → d ≤ 4 → ∀ q l h u pv, q ≤ N → h ≤ 2 * d → pj l q h → mx u0 u B N D d q l → mv_P u0 B N D d pv (pz_S B N k d q l) → WP_X11_sum ms_E0 k u 233 pv := by
  intro k
  induction k with
  | zero => intro d h1 h2; omega
  | succ k ih =>
    intro d h1 h2 q l h u pv hq hh hj hx hp
    show wp_X11_sum ms_E0 (WP_X11_sum ms_E0 k) u 233 pv
    exact m_sum (R := pz_S B N k (d + 1)) hB0 (fun hd4 q l h u pv hq2 hh2 hj2 hx2 hp2 => ih (d + 1) (by omega) (by omega) q l h u pv hq2 (by omega) hj2 hx2 hp2) (fun u pv hb hp2 => b_sumS k u pv (by omega) hb hp2) (fun hd4 q l h hq2 hh2 hj2 => S_ok k (d + 1) (by omega) (by omega) q l h hq2 (by omega) hj2) h2 hh hj hx hp
end ME
