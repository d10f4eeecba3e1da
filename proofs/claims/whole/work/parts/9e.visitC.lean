/-! ===== the class reads a visit expression ===== -/
def er (c : Nat) : Int32 := if c = 2 then -2 else if c = 3 then -3 else if c = 4 then -4 else -5
def cd (x : ms_Op) : Int32 := if x.1 = 0 then nI x.2 else if x.1 = 1 then (if x.2 = 0 then -1 else if x.2 = 1 then -2 else -3) else if x.1 = 2 then -4 else if x.1 = 3 then -5 else if x.1 = 4 then -6 else -7
def codes (u : ms_St) (l : List ms_Op) : Prop := ms_I u 46 1 = nI l.length ∧ ∀ i, i < l.length → ms_I u 47 i = cd (l.getD i (0, 0))
def ce_F (u0 u : ms_St) : Prop := (∀ a b, a ≠ 44 → a ≠ 47 → ¬ (a = 46 ∧ b = 1) → ¬ (a = 23 ∧ (b = 1 ∨ b = 2)) → ms_I u a b = ms_I u0 a b) ∧ ms_J u = ms_J u0
def cx (u0 u : ms_St) (B : Nat → Nat) (N q : Nat) (l : List ms_Op) : Prop := ce_F u0 u ∧ q ≤ N ∧ tk u B N q ∧ codes u l ∧ ms_I u 23 2 = 0 ∧ ms_I u 23 1 = ms_I u0 23 1
def cv_P (u0 : ms_St) (B : Nat → Nat) (N : Nat) (post : Int32 → ms_St → Prop) : ms_V → Prop
  | Sum.inl e => ∀ u', ce_F u0 u' → ms_I u' 23 2 = er e.1 → ms_I u' 23 1 = nI e.2 → post 0 u'
  | Sum.inr x => ∀ u', cx u0 u' B N x.1 x.2 → post 1 u'
theorem gd_app {l : List ms_Op} {x d : ms_Op} {i : Nat} (h : i < l.length) : (l ++ [x]).getD i d = l.getD i d := by
  rw [List.getD_eq_getElem?_getD, List.getD_eq_getElem?_getD, List.getElem?_append_left h]
theorem gd_last {l : List ms_Op} {x d : ms_Op} : (l ++ [x]).getD l.length d = x := by
  rw [List.getD_eq_getElem?_getD]
  simp
section CE
variable {B : Nat → Nat} {N q lo hx d h : Nat} {l : List ms_Op} {u u0 : ms_St} {pv : ms_St → Prop} {post : Int32 → ms_St → Prop} {a1 a2 : Int32}
theorem ce_B (hF : ce_F u0 u) (hB : bt_C u0 B N) : bt_C u B N := ⟨hB.1, fun k hk => by rw [hF.1 1 k (by omega) (by omega) (by omega) (by omega)]; exact hB.2 k hk⟩
theorem ce_fr {c : Nat} {u1 : ms_St} (hF : ce_F u0 u) (h : fr c u u1) (hc : c = 44 ∨ c = 47) : ce_F u0 u1 := ⟨fun a b q1 q2 q3 q4 => (h.1 a b (by omega)).trans (hF.1 a b q1 q2 q3 q4), h.2.trans hF.2⟩
theorem codes_fr {u1 : ms_St} (h : fr 44 u u1) (hc : codes u l) : codes u1 l := ⟨by rw [h.1 46 1 (by omega)]; exact hc.1, fun i hi => by rw [h.1 47 i (by omega)]; exact hc.2 i hi⟩
theorem cx_adv {u1 : ms_St} {q1 : Nat} (hx : cx u0 u B N q l) (hq : q1 ≤ N) (h : fr 44 u u1) (ht : tk u1 B N q1) : cx u0 u1 B N q1 l := ⟨ce_fr hx.1 h (Or.inl rfl), hq, ht, codes_fr h hx.2.2.2.1, by rw [h.1 23 2 (by omega)]; exact hx.2.2.2.2.1, by rw [h.1 23 1 (by omega)]; exact hx.2.2.2.2.2⟩
theorem cv_fail {c : Nat} {z : Int32} (hF : ce_F u0 u) (hz : z = er c) (hp : cv_P u0 B N post (Sum.inl (c, q))) : post 0 (ms_sI (ms_sI u 23 2 z) 23 1 (nI q)) := by
  refine hp _ ⟨fun a b q1 q2 q3 q4 => ?_, hF.2⟩ ?_ ?_
  · rw [I_sI, if_neg (by omega), I_sI, if_neg (by omega)]; exact hF.1 a b q1 q2 q3 q4
  · rw [I_sI, if_neg (by omega), I_sI, if_pos ⟨rfl, rfl⟩, hz]
  · rw [I_sI, if_pos ⟨rfl, rfl⟩]
theorem t1_w (ht : tk u B N q) {z : Int32} : ms_I (ms_sI u 23 2 z) 44 1 = nI q := by rw [I_sI, if_neg (by omega)]; exact ht.1
theorem tk_sign {a : Nat} (ht : tk u B N q) (ha : 33 ≤ a ∧ a < 48 ∨ a = 59) (h : pz_at B N q = a) : ms_I u 44 5 = nI (q + 1) ∧ q < N := by
  have hq := sg (show a ≠ 256 by omega) h
  exact ⟨(ht.2.2.2.2.2.2 hq (by omega) (by omega)).2.2, hq⟩
theorem tk_word {w : List Nat} (ht : tk u B N q) (hq : q ≤ N) (hc : ∀ c ∈ w, 97 ≤ c ∧ c ≤ 122) (hl : 0 < w.length) (h : pz_wd B N w q = true) : ms_I u 44 5 = nI (q + w.length) ∧ q + w.length ≤ N := by
  have e := wd_run w q hc h
  have hlt : 97 ≤ pz_at B N q ∧ pz_at B N q ≤ 122 := by
    apply Classical.byContradiction
    intro z
    rw [ld_stop z] at e
    omega
  exact ⟨by rw [(ht.2.2.2.2.2.1 hlt).2, e], wd_pos hq hc h⟩
theorem c_add {x : ms_Op} (hc : codes u l) (hl : l.length < 900) (hp : ∀ u', (∀ a b, a ≠ 47 → ¬ (a = 46 ∧ b = 1) → ms_I u' a b = ms_I u a b) → ms_J u' = ms_J u → codes u' (l ++ [x]) → pv u') : wp_X8_add ms_E0 u 46 (cd x) pv := by
  obtain ⟨c0, c1⟩ := hc
  have e : ms_I (ms_sI u 47 l.length (cd x)) 46 1 + 1 = nI (l.length + 1) := by rw [I_sI, if_neg (by omega), c0, nI_1]
  unfold wp_X8_add wp_X8_add_32
  rw [c0, at_46_0, nI_clamp (by omega), e]
  refine ⟨fun z => absurd z (nI_ge (by omega) (by omega)), fun _ => ⟨vp_in_nI hl (by omega), fun w29 e29 => ?_⟩⟩
  subst e29
  refine hp _ (fun a b q1 q2 => ?_) rfl ⟨?_, fun i hi => ?_⟩
  · rw [I_sI, if_neg q2, I_sI, if_neg (by omega)]
  · rw [I_sI, if_pos ⟨rfl, rfl⟩, List.length_append]; rfl
  · rw [I_sI, if_neg (by omega), I_sI]
    rw [List.length_append] at hi
    by_cases c : i = l.length
    · rw [if_pos ⟨rfl, c⟩, c, gd_last]
    · have hi2 : i < l.length := by simp at hi; omega
      rw [if_neg (by omega), gd_app hi2]
      exact c1 i hi2
theorem c_number (hB : bt_C u B N) (hq : q ≤ N) (ht : tk u B N q) (hlo : lo ≤ 100000) (hhx : hx ≤ 100000) (e1 : a1 = nI lo) (e2 : a2 = nI hx - 1) (hno : ∀ c, pz_n B N q lo hx = Sum.inl (c, q) → post (-1) (ms_sI (ms_sI u 23 2 (er c)) 23 1 (nI q))) (hok : ∀ v q', pz_n B N q lo hx = Sum.inr (v, q') → ∀ u', fr 44 u u' → tk u' B N q' → post (nI v) u') : wp_X3_number ms_E0 u 23 a1 a2 post := by
  subst e1
  subst e2
  have hN := hB.1
  obtain ⟨t1, t3, t4, te, td, tl, ts⟩ := ht
  unfold wp_X3_number wp_X3_number_38 wp_X3_fail
  rw [at_23_3, show ∀ z, ms_I (ms_sI u 23 2 z) 44 1 = nI q from fun z => by rw [I_sI, if_neg (by omega)]; exact t1, show ∀ z, ms_I (ms_sI u 23 2 z) 44 1 = nI q from fun z => by rw [I_sI, if_neg (by omega)]; exact t1]
  intro v7 e7
  by_cases c : 48 ≤ pz_at B N q ∧ pz_at B N q ≤ 57
  · obtain ⟨d0, d5, x, d2, hr⟩ := td c
    have hnd := nd_all (B := B) (N := N) (N - q) q 0 rfl hq
    rw [d2] at e7
    subst e7
    have hv : (pz_nd B N q 0).2 < 100000 ∨ 100000 ≤ (pz_nd B N q 0).2 := by omega
    have hx6 : x ≤ 1000000 := by
      rcases hv with z | z
      · have := hr.1 z; omega
      · exact (hr.2 z).2
    have no3 : ¬ (lo ≤ (pz_nd B N q 0).2 ∧ (pz_nd B N q 0).2 < hx) → post (-1) (ms_sI (ms_sI u 23 2 (-3)) 23 1 (nI q)) := fun z => hno 3 (by unfold pz_n; rw [if_pos c, if_neg z])
    rw [d0]
    refine ⟨fun _ => pk_lt x lo (fun z => no3 ?_) (fun z => ⟨fun z2 => ?_, fun z2 => no3 ?_⟩), fun z => absurd rfl z⟩
    · rcases hv with y | y
      · have := hr.1 y; omega
      · have := (hr.2 y).1; omega
    · have hxl : x < hx := (nI_ltI (by omega) (by omega)).mp ((le_pred (by omega)).mp z2)
      have hvx : (pz_nd B N q 0).2 = x := by
        rcases hv with y | y
        · exact (hr.1 y).symm
        · have := (hr.2 y).1; omega
      refine c_advance hB hnd.2 t3 t4 d5 (fun u1 hF1 ht1 => ?_)
      have := hok x (pz_s B N (pz_nd B N q 0).1) (by unfold pz_n; rw [if_pos c, hvx, if_pos ⟨by omega, hxl⟩]) u1 hF1 ht1
      exact this
    · have hxl : ¬ x < hx := fun y => z2 ((le_pred (by omega)).mpr (nI_lt y (by omega)))
      rcases hv with y | y
      · have := hr.1 y; omega
      · omega
  · have hne : ¬ ms_I u 44 0 = 1 := by
      by_cases h1 : N ≤ q
      · rw [te h1]; decide
      · by_cases h3 : 97 ≤ pz_at B N q ∧ pz_at B N q ≤ 122
        · rw [(tl h3).1]; decide
        · rw [(ts (by omega) c h3).1]; decide
    exact ⟨fun z => absurd z hne, fun _ => hno 2 (by unfold pz_n; rw [if_neg c])⟩
theorem c_expect {a : Nat} (hB : bt_C u B N) (hq : q ≤ N) (ht : tk u B N q) (ha : 33 ≤ a ∧ a < 48 ∨ a = 59) (hno : pz_at B N q ≠ a → post 0 (ms_sI (ms_sI u 23 2 (-2)) 23 1 (nI q))) (hok : pz_at B N q = a → ∀ u', fr 44 u u' → tk u' B N (pz_s B N (q + 1)) → post 1 u') : wp_X3_expect ms_E0 u 23 (nI a) post := by
  unfold wp_X3_expect wp_X3_fail
  rw [at_23_3]
  refine c_isSign hB ht ha ?_
  rw [t1_w ht]
  by_cases c : pz_at B N q = a
  · rw [if_pos c]
    obtain ⟨h5, hqN⟩ := tk_sign ht ha c
    exact ⟨fun z => absurd z (by decide), fun _ => c_advance hB (by omega) ht.2.1 ht.2.2.1 h5 (fun u1 hF1 ht1 => hok c u1 hF1 ht1)⟩
  · rw [if_neg c]
    exact ⟨fun _ => ⟨Or.inl rfl, hno c⟩, fun z => absurd rfl z⟩
theorem c_factor {rec : ms_St → Nat → Int32 → (Int32 → ms_St → Prop) → Prop} {R : Nat → List ms_Op → ms_V} (hB0 : bt_C u0 B N) (hrec : d < 4 → ∀ q l h u post, q ≤ N → h ≤ 2 * d + 2 → pj l q h → cx u0 u B N q l → cv_P u0 B N post (R q l) → rec u 23 (nI (d + 1)) post) (hR : d < 4 → ∀ q l h, q ≤ N → h ≤ 2 * d + 2 → pj l q h → pi_ok B N (R q l) q h) (hd : d ≤ 4) (hh : h ≤ 2 * d + 2) (hj : pj l q h) (hx : cx u0 u B N q l) (hp : cv_P u0 B N post (pz_fa B N R d q l)) : wp_X3_factor ms_E0 rec u 23 (nI d) post := by
  have hN := hB0.1
  have hxx := hx
  obtain ⟨hF, hq, ht, hc, h0⟩ := hx
  have hB := ce_B hF hB0
  have hcnt := wr_cnt l 0 h hj.1
  have hlen := len_ab l
  have hj2 := hj.2
  have adv : ∀ (x : ms_Op) (p : Nat), p ≤ N → q < N → ms_I u 44 5 = nI p → cv_P u0 B N post (Sum.inr (pz_s B N p, l ++ [x])) → wp_X8_add ms_E0 u 46 (cd x) (fun u9 => wp_X6_advance ms_E0 u9 44 (fun u195 => post 1 u195)) := by
    intro x p hpN hqN h5 hp2
    refine c_add hc (by omega) (fun u1 k1 j1 c1 => ?_)
    have hF1 : ce_F u0 u1 := ⟨fun a b q1 q2 q3 q4 => by rw [k1 a b q2 q3]; exact hF.1 a b q1 q2 q3 q4, j1.trans hF.2⟩
    refine c_advance (ce_B hF1 hB0) hpN (by rw [k1 44 3 (by omega) (by omega)]; exact ht.2.1) (by rw [k1 44 4 (by omega) (by omega)]; exact ht.2.2.1) (by rw [k1 44 5 (by omega) (by omega)]; exact h5) (fun u2 hF2 ht2 => hp2 u2 ⟨ce_fr hF1 hF2 (Or.inl rfl), s_le hpN, ht2, codes_fr hF2 c1, ?_, ?_⟩)
    · rw [hF2.1 23 2 (by omega), k1 23 2 (by omega) (by omega)]
      exact h0.1
    · rw [hF2.1 23 1 (by omega), k1 23 1 (by omega) (by omega)]
      exact h0.2
  unfold pz_fa at hp
  unfold wp_X3_factor wp_X3_factor_191 wp_X3_factor_168 wp_X3_factor_187 wp_X3_factor_54 wp_X3_factor_55
  rw [at_23_3, at_23_4]
  refine c_isSign (a := 40) hB ht (by omega) ?_
  by_cases c1 : pz_at B N q = 40
  · rw [if_pos c1] at hp
    rw [if_pos c1]
    obtain ⟨h5, hqN⟩ := tk_sign ht (by omega) c1
    refine ⟨fun z => absurd z (by decide), fun _ => pk_lt d 4 (fun hd4 => ?_) (fun hge => ?_)⟩
    · rw [if_neg (by omega)] at hp
      refine c_advance hB (by omega) ht.2.1 ht.2.2.1 h5 (fun u1 hF1 ht1 => ?_)
      have hx1 := cx_adv hxx (s_le (show q + 1 ≤ N by omega)) hF1 ht1
      have ge := s_ge (B := B) (p := q + 1) (N := N) (by omega)
      rw [nI_1]
      refine hrec hd4 _ l h u1 _ (s_le (by omega)) hh ⟨hj.1, by omega⟩ hx1 ?_
      cases hr : R (pz_s B N (q + 1)) l with
      | inl e =>
        rw [hr] at hp
        intro u2 b1 b2 b3
        exact ⟨fun _ => ⟨Or.inl rfl, hp u2 b1 b2 b3⟩, fun z => absurd rfl z⟩
      | inr x =>
        rw [hr] at hp
        intro u2 hx2
        have hp : cv_P u0 B N post (pz_x B N 41 x.1 x.2) := hp
        refine ⟨fun z => absurd z (by decide), fun _ => c_expect (a := 41) (ce_B hx2.1 hB0) hx2.2.1 hx2.2.2.1 (by omega) (fun z => ?_) (fun z u3 hF3 ht3 => ?_)⟩
        · unfold pz_x at hp
          rw [if_neg z] at hp
          exact ⟨fun _ => ⟨Or.inl rfl, cv_fail (c := 2) hx2.1 rfl hp⟩, fun y => absurd rfl y⟩
        · unfold pz_x at hp
          rw [if_pos z] at hp
          have := sg (by omega) z
          exact ⟨fun y => absurd y (by decide), fun _ => ⟨Or.inr rfl, hp u3 (cx_adv hx2 (s_le (by omega)) hF3 ht3)⟩⟩
    · rw [if_pos (by omega)] at hp
      unfold wp_X3_fail
      rw [at_23_3, t1_w ht]
      exact ⟨Or.inl rfl, cv_fail (c := 5) hF rfl hp⟩
  · rw [if_neg c1] at hp
    rw [if_neg c1]
    refine ⟨fun _ => c_isWord k9 (by decide) hB hq ht ?_, fun z => absurd rfl z⟩
    by_cases c2 : pz_wd B N w_persons q = true
    · rw [if_pos c2] at hp
      rw [if_pos c2]
      obtain ⟨h5, hle⟩ := tk_word ht hq (wk_mem k9) (by decide) c2
      have hl : w_persons.length = 7 := rfl
      exact ⟨fun z => absurd z (by decide), fun _ => adv (1, 0) (q + 7) hle (by omega) h5 hp⟩
    · rw [if_neg c2] at hp
      rw [if_neg c2]
      refine ⟨fun _ => c_isWord k4 (by decide) hB hq ht ?_, fun z => absurd rfl z⟩
      by_cases c3 : pz_wd B N w_dog q = true
      · rw [if_pos c3] at hp
        rw [if_pos c3]
        obtain ⟨h5, hle⟩ := tk_word ht hq (wk_mem k4) (by decide) c3
        have hl : w_dog.length = 3 := rfl
        exact ⟨fun z => absurd z (by decide), fun _ => adv (1, 1) (q + 3) hle (by omega) h5 hp⟩
      · rw [if_neg c3] at hp
        rw [if_neg c3]
        refine ⟨fun _ => c_isWord k10 (by decide) hB hq ht ?_, fun z => absurd rfl z⟩
        by_cases c4 : pz_wd B N w_call q = true
        · rw [if_pos c4] at hp
          rw [if_pos c4]
          obtain ⟨h5, hle⟩ := tk_word ht hq (wk_mem k10) (by decide) c4
          have hl : w_call.length = 4 := rfl
          exact ⟨fun z => absurd z (by decide), fun _ => adv (1, 2) (q + 4) hle (by omega) h5 hp⟩
        · rw [if_neg c4] at hp
          rw [if_neg c4]
          refine ⟨fun _ => ?_, fun z => absurd rfl z⟩
          unfold wp_X3_fail
          rw [at_23_3, t1_w ht, t1_w ht]
          obtain ⟨t1, t3, t4, te, td, tl, ts⟩ := ht
          by_cases c : 48 ≤ pz_at B N q ∧ pz_at B N q ≤ 57
          · obtain ⟨d0, d5, x, d2, hr⟩ := td c
            have hqN := by
              have : q < N := by
                by_cases z : q < N
                · exact z
                · rw [at_ge (by omega)] at c; omega
              exact this
            have hnd := nd_all (B := B) (N := N) (N - q) q 0 rfl hq
            have hv : (pz_nd B N q 0).2 < 100000 ∨ 100000 ≤ (pz_nd B N q 0).2 := by omega
            have hx6 : x ≤ 1000000 := by
              rcases hv with z | z
              · have := hr.1 z; omega
              · exact (hr.2 z).2
            rw [d0, d2]
            refine ⟨fun _ => pk_lt 9999 x (fun z => ⟨fun _ => ⟨Or.inl rfl, ?_⟩, fun y => absurd rfl y⟩) (fun z => ?_), fun z => absurd rfl z⟩
            · have e : pz_n B N q 0 10000 = Sum.inl (3, q) := by
                unfold pz_n
                rw [if_pos c, if_neg]
                rcases hv with y | y
                · have := hr.1 y; omega
                · omega
              rw [e] at hp
              exact cv_fail (c := 3) hF rfl hp
            · have hvx : (pz_nd B N q 0).2 = x := by
                rcases hv with y | y
                · exact (hr.1 y).symm
                · have := (hr.2 y).1; omega
              have e : pz_n B N q 0 10000 = Sum.inr (x, pz_s B N (pz_nd B N q 0).1) := by
                unfold pz_n
                rw [if_pos c, hvx, if_pos (by omega)]
              rw [e] at hp
              exact adv (0, x) _ hnd.2 hqN d5 hp
          · have hne : ¬ ms_I u 44 0 = 1 := by
              by_cases h1 : N ≤ q
              · rw [te h1]; decide
              · by_cases h3 : 97 ≤ pz_at B N q ∧ pz_at B N q ≤ 122
                · rw [(tl h3).1]; decide
                · rw [(ts (by omega) c h3).1]; decide
            have e : pz_n B N q 0 10000 = Sum.inl (2, q) := by
              unfold pz_n
              rw [if_neg c]
            rw [e] at hp
            exact ⟨fun z => absurd z hne, fun _ => ⟨fun z => absurd z hne, fun _ => ⟨Or.inl rfl, cv_fail (c := 2) hF rfl hp⟩⟩⟩
theorem c_term_loop {rec : ms_St → Nat → Int32 → (Int32 → ms_St → Prop) → Prop} {R : Nat → List ms_Op → ms_V} (hB0 : bt_C u0 B N) (hrec : d < 4 → ∀ q l h u post, q ≤ N → h ≤ 2 * d + 2 → pj l q h → cx u0 u B N q l → cv_P u0 B N post (R q l) → rec u 23 (nI (d + 1)) post) (hR : d < 4 → ∀ q l h, q ≤ N → h ≤ 2 * d + 2 → pj l q h → pi_ok B N (R q l) q h) (hd : d ≤ 4) (hh : h ≤ 2 * d + 1) : ∀ n q l u i, N - q < n → i ≤ q → cx u0 u B N q l → wr l 0 (h + 1) → 2 * na l ≤ q + 1 → cv_P u0 B N post (pz_tl B N (pz_fa B N R d) 42 47 4 5 n q l) → wp_X3_term_12 ms_E0 rec 23 (nI d) post n u (nI i) := by
  have hN := hB0.1
  intro n
  induction n with
  | zero => intro q l u i h1; omega
  | succ n ih =>
    intro q l u i h1 hi hx hw hn hp
    have hxx := hx
    obtain ⟨hF, hq, ht, hc, h0⟩ := hx
    have hB := ce_B hF hB0
    rw [tl_s] at hp
    unfold wp_X3_term_12 wp_X3_term_43 wp_X3_term_62 wp_X3_term_94
    rw [at_23_3, at_23_4]
    have go : ∀ (z : Int32) (k : Nat), (pz_at B N q = 42 ∨ pz_at B N q = 47) → z = cd (k, 0) → (2 ≤ k ∧ k ≤ 5) → (if pz_at B N q = 42 then 4 else 5) = k → wp_X6_advance ms_E0 u 44 (fun u67 => wp_X3_factor ms_E0 rec u67 23 (nI d) (fun r72 u72 => (r72 = 0 → post 0 u72) ∧ (¬ r72 = 0 → wp_X8_add ms_E0 u72 46 z (fun u85 => wp_X3_term_12 ms_E0 rec 23 (nI d) post n u85 (nI i + 1))))) := by
      intro z k hcc hz hk hek
      have h5 : ms_I u 44 5 = nI (q + 1) ∧ q < N := by
        rcases hcc with y | y
        · exact tk_sign ht (by omega) y
        · exact tk_sign ht (by omega) y
      rw [if_pos hcc, hek] at hp
      have ge := s_ge (B := B) (p := q + 1) (N := N) (by omega)
      refine c_advance hB (by omega) ht.2.1 ht.2.2.1 h5.1 (fun u1 hF1 ht1 => ?_)
      have hx1 := cx_adv hxx (s_le (show q + 1 ≤ N by omega)) hF1 ht1
      refine c_factor hB0 hrec hR hd (h := h + 1) (by omega) ⟨hw, by omega⟩ hx1 ?_
      cases hr : pz_fa B N R d (pz_s B N (q + 1)) l with
      | inl e =>
        rw [hr] at hp
        intro u2 b1 b2 b3
        exact ⟨fun _ => hp u2 b1 b2 b3, fun y => absurd rfl y⟩
      | inr x =>
        rw [hr] at hp
        intro u2 hx2
        have hp : cv_P u0 B N post (pz_tl B N (pz_fa B N R d) 42 47 4 5 n x.1 (x.2 ++ [(k, 0)])) := hp
        obtain ⟨a1, a2, a3, a4, a5⟩ := fa_ok hR hd (s_le (show q + 1 ≤ N by omega)) (h := h + 1) (by omega) ⟨hw, by omega⟩ x.1 x.2 hr
        obtain ⟨j1, j2⟩ := pj_bi a4 hk
        have hcnt := wr_cnt _ _ _ a4
        have hlen := len_ab x.2
        refine ⟨fun y => absurd y (by decide), fun _ => ?_⟩
        rw [hz, nI_1]
        refine c_add hx2.2.2.2.1 (by omega) (fun u3 k3 j3 c3 => ih x.1 _ u3 (i + 1) (by omega) (by omega) ⟨⟨fun a b q1 q2 q3 q4 => ?_, j3.trans hx2.1.2⟩, hx2.2.1, ?_, c3, ?_, ?_⟩ j1 (by rw [j2]; exact a5) hp)
        · rw [k3 a b q2 q3]; exact hx2.1.1 a b q1 q2 q3 q4
        · have tt := hx2.2.2.1
          unfold tk at tt ⊢
          rw [k3 44 0 (by omega) (by omega), k3 44 1 (by omega) (by omega), k3 44 2 (by omega) (by omega), k3 44 3 (by omega) (by omega), k3 44 4 (by omega) (by omega), k3 44 5 (by omega) (by omega)]
          exact tt
        · rw [k3 23 2 (by omega) (by omega)]; exact hx2.2.2.2.2.1
        · rw [k3 23 1 (by omega) (by omega)]; exact hx2.2.2.2.2.2
    have stop : ¬ (pz_at B N q = 42 ∨ pz_at B N q = 47) → post 1 u := fun z => by
      rw [if_neg z] at hp
      exact hp u hxx
    refine pk_le 900 i (fun z => stop ?_) (fun z => c_isSign (a := 42) hB ht (by omega) ?_)
    · rw [at_ge (by omega)]; omega
    · by_cases c1 : pz_at B N q = 42
      · rw [if_pos c1]
        refine ⟨fun y => absurd y (by decide), fun _ => c_isSign (a := 42) hB ht (by omega) ?_⟩
        rw [if_pos c1]
        exact ⟨fun y => absurd y (by decide), fun _ => go _ 4 (Or.inl c1) rfl (by omega) (if_pos c1)⟩
      · rw [if_neg c1]
        refine ⟨fun _ => c_isSign (a := 47) hB ht (by omega) ?_, fun y => absurd rfl y⟩
        by_cases c2 : pz_at B N q = 47
        · rw [if_pos c2]
          refine ⟨fun y => absurd y (by decide), fun _ => c_isSign (a := 42) hB ht (by omega) ?_⟩
          rw [if_neg c1]
          exact ⟨fun _ => go _ 5 (Or.inr c2) rfl (by omega) (if_neg c1), fun y => absurd rfl y⟩
        · rw [if_neg c2]
          exact ⟨fun _ => stop (fun z => z.elim c1 c2), fun y => absurd rfl y⟩
theorem c_term {rec : ms_St → Nat → Int32 → (Int32 → ms_St → Prop) → Prop} {R : Nat → List ms_Op → ms_V} (hB0 : bt_C u0 B N) (hrec : d < 4 → ∀ q l h u post, q ≤ N → h ≤ 2 * d + 2 → pj l q h → cx u0 u B N q l → cv_P u0 B N post (R q l) → rec u 23 (nI (d + 1)) post) (hR : d < 4 → ∀ q l h, q ≤ N → h ≤ 2 * d + 2 → pj l q h → pi_ok B N (R q l) q h) (hd : d ≤ 4) (hh : h ≤ 2 * d + 1) (hj : pj l q h) (hx : cx u0 u B N q l) (hp : cv_P u0 B N post (pz_te B N R d q l)) : wp_X3_term ms_E0 rec u 23 (nI d) post := by
  unfold pz_te at hp
  unfold wp_X3_term
  refine c_factor hB0 hrec hR hd (by omega) hj hx ?_
  cases hr : pz_fa B N R d q l with
  | inl e =>
    rw [hr] at hp
    intro u2 b1 b2 b3
    exact ⟨fun _ => hp u2 b1 b2 b3, fun y => absurd rfl y⟩
  | inr x =>
    rw [hr] at hp
    intro u2 hx2
    obtain ⟨a1, a2, a3, a4, a5⟩ := fa_ok hR hd hx.2.1 (by omega) hj x.1 x.2 hr
    exact ⟨fun y => absurd y (by decide), fun _ => ⟨N + 1, c_term_loop hB0 hrec hR hd hh (N + 1) x.1 x.2 u2 0 (by omega) (by omega) hx2 a4 a5 hp⟩⟩
theorem c_sum_loop {rec : ms_St → Nat → Int32 → (Int32 → ms_St → Prop) → Prop} {R : Nat → List ms_Op → ms_V} (hB0 : bt_C u0 B N) (hrec : d < 4 → ∀ q l h u post, q ≤ N → h ≤ 2 * d + 2 → pj l q h → cx u0 u B N q l → cv_P u0 B N post (R q l) → rec u 23 (nI (d + 1)) post) (hR : d < 4 → ∀ q l h, q ≤ N → h ≤ 2 * d + 2 → pj l q h → pi_ok B N (R q l) q h) (hd : d ≤ 4) (hh : h ≤ 2 * d) : ∀ n q l u i, N - q < n → i ≤ q → cx u0 u B N q l → wr l 0 (h + 1) → 2 * na l ≤ q + 1 → cv_P u0 B N post (pz_tl B N (pz_te B N R d) 43 45 2 3 n q l) → wp_X3_sum_12 ms_E0 rec 23 (nI d) post n u (nI i) := by
  have hN := hB0.1
  intro n
  induction n with
  | zero => intro q l u i h1; omega
  | succ n ih =>
    intro q l u i h1 hi hx hw hn hp
    have hxx := hx
    obtain ⟨hF, hq, ht, hc, h0⟩ := hx
    have hB := ce_B hF hB0
    rw [tl_s] at hp
    unfold wp_X3_sum_12 wp_X3_sum_43 wp_X3_sum_62 wp_X3_sum_94
    rw [at_23_3, at_23_4]
    have go : ∀ (z : Int32) (k : Nat), (pz_at B N q = 43 ∨ pz_at B N q = 45) → z = cd (k, 0) → (2 ≤ k ∧ k ≤ 5) → (if pz_at B N q = 43 then 2 else 3) = k → wp_X6_advance ms_E0 u 44 (fun u67 => wp_X3_term ms_E0 rec u67 23 (nI d) (fun r72 u72 => (r72 = 0 → post 0 u72) ∧ (¬ r72 = 0 → wp_X8_add ms_E0 u72 46 z (fun u85 => wp_X3_sum_12 ms_E0 rec 23 (nI d) post n u85 (nI i + 1))))) := by
      intro z k hcc hz hk hek
      have h5 : ms_I u 44 5 = nI (q + 1) ∧ q < N := by
        rcases hcc with y | y
        · exact tk_sign ht (by omega) y
        · exact tk_sign ht (by omega) y
      rw [if_pos hcc, hek] at hp
      have ge := s_ge (B := B) (p := q + 1) (N := N) (by omega)
      refine c_advance hB (by omega) ht.2.1 ht.2.2.1 h5.1 (fun u1 hF1 ht1 => ?_)
      have hx1 := cx_adv hxx (s_le (show q + 1 ≤ N by omega)) hF1 ht1
      refine c_term hB0 hrec hR hd (h := h + 1) (by omega) ⟨hw, by omega⟩ hx1 ?_
      cases hr : pz_te B N R d (pz_s B N (q + 1)) l with
      | inl e =>
        rw [hr] at hp
        intro u2 b1 b2 b3
        exact ⟨fun _ => hp u2 b1 b2 b3, fun y => absurd rfl y⟩
      | inr x =>
        rw [hr] at hp
        intro u2 hx2
        have hp : cv_P u0 B N post (pz_tl B N (pz_te B N R d) 43 45 2 3 n x.1 (x.2 ++ [(k, 0)])) := hp
        obtain ⟨a1, a2, a3, a4, a5⟩ := te_ok hR hd (s_le (show q + 1 ≤ N by omega)) (h := h + 1) (by omega) ⟨hw, by omega⟩ x.1 x.2 hr
        obtain ⟨j1, j2⟩ := pj_bi a4 hk
        have hcnt := wr_cnt _ _ _ a4
        have hlen := len_ab x.2
        refine ⟨fun y => absurd y (by decide), fun _ => ?_⟩
        rw [hz, nI_1]
        refine c_add hx2.2.2.2.1 (by omega) (fun u3 k3 j3 c3 => ih x.1 _ u3 (i + 1) (by omega) (by omega) ⟨⟨fun a b q1 q2 q3 q4 => ?_, j3.trans hx2.1.2⟩, hx2.2.1, ?_, c3, ?_, ?_⟩ j1 (by rw [j2]; exact a5) hp)
        · rw [k3 a b q2 q3]; exact hx2.1.1 a b q1 q2 q3 q4
        · have tt := hx2.2.2.1
          unfold tk at tt ⊢
          rw [k3 44 0 (by omega) (by omega), k3 44 1 (by omega) (by omega), k3 44 2 (by omega) (by omega), k3 44 3 (by omega) (by omega), k3 44 4 (by omega) (by omega), k3 44 5 (by omega) (by omega)]
          exact tt
        · rw [k3 23 2 (by omega) (by omega)]; exact hx2.2.2.2.2.1
        · rw [k3 23 1 (by omega) (by omega)]; exact hx2.2.2.2.2.2
    have stop : ¬ (pz_at B N q = 43 ∨ pz_at B N q = 45) → post 1 u := fun z => by
      rw [if_neg z] at hp
      exact hp u hxx
    refine pk_le 900 i (fun z => stop ?_) (fun z => c_isSign (a := 43) hB ht (by omega) ?_)
    · rw [at_ge (by omega)]; omega
    · by_cases c1 : pz_at B N q = 43
      · rw [if_pos c1]
        refine ⟨fun y => absurd y (by decide), fun _ => c_isSign (a := 43) hB ht (by omega) ?_⟩
        rw [if_pos c1]
        exact ⟨fun y => absurd y (by decide), fun _ => go _ 2 (Or.inl c1) rfl (by omega) (if_pos c1)⟩
      · rw [if_neg c1]
        refine ⟨fun _ => c_isSign (a := 45) hB ht (by omega) ?_, fun y => absurd rfl y⟩
        by_cases c2 : pz_at B N q = 45
        · rw [if_pos c2]
          refine ⟨fun y => absurd y (by decide), fun _ => c_isSign (a := 43) hB ht (by omega) ?_⟩
          rw [if_neg c1]
          exact ⟨fun _ => go _ 3 (Or.inr c2) rfl (by omega) (if_neg c1), fun y => absurd rfl y⟩
        · rw [if_neg c2]
          exact ⟨fun _ => stop (fun z => z.elim c1 c2), fun y => absurd rfl y⟩
theorem c_sum {rec : ms_St → Nat → Int32 → (Int32 → ms_St → Prop) → Prop} {R : Nat → List ms_Op → ms_V} (hB0 : bt_C u0 B N) (hrec : d < 4 → ∀ q l h u post, q ≤ N → h ≤ 2 * d + 2 → pj l q h → cx u0 u B N q l → cv_P u0 B N post (R q l) → rec u 23 (nI (d + 1)) post) (hR : d < 4 → ∀ q l h, q ≤ N → h ≤ 2 * d + 2 → pj l q h → pi_ok B N (R q l) q h) (hd : d ≤ 4) (hh : h ≤ 2 * d) (hj : pj l q h) (hx : cx u0 u B N q l) (hp : cv_P u0 B N post (pz_su B N R d q l)) : wp_X3_sum ms_E0 rec u 23 (nI d) post := by
  unfold pz_su at hp
  unfold wp_X3_sum
  refine c_term hB0 hrec hR hd (by omega) hj hx ?_
  cases hr : pz_te B N R d q l with
  | inl e =>
    rw [hr] at hp
    intro u2 b1 b2 b3
    exact ⟨fun _ => hp u2 b1 b2 b3, fun y => absurd rfl y⟩
  | inr x =>
    rw [hr] at hp
    intro u2 hx2
    obtain ⟨a1, a2, a3, a4, a5⟩ := te_ok hR hd hx.2.1 (by omega) hj x.1 x.2 hr
    exact ⟨fun y => absurd y (by decide), fun _ => ⟨N + 1, c_sum_loop hB0 hrec hR hd hh (N + 1) x.1 x.2 u2 0 (by omega) (by omega) hx2 a4 a5 hp⟩⟩
theorem c_sumS (hB0 : bt_C u0 B N) : ∀ k d, k + d = 6 → d ≤ 4 → ∀ q l h u post, q ≤ N → h ≤ 2 * d → pj l q h → cx u0 u B N q l → cv_P u0 B N post (pz_S B N k d q l) → WP_X3_sum ms_E0 k u 23 (nI d) post := by
  intro k
  induction k with
  | zero => intro d h1 h2; omega
  | succ k ih =>
    intro d h1 h2 q l h u post hq hh hj hx hp
    show wp_X3_sum ms_E0 (WP_X3_sum ms_E0 k) u 23 (nI d) post
    exact c_sum (R := pz_S B N k (d + 1)) hB0 (fun hd4 q l h u post hq2 hh2 hj2 hx2 hp2 => ih (d + 1) (by omega) (by omega) q l h u post hq2 (by omega) hj2 hx2 hp2) (fun hd4 q l h hq2 hh2 hj2 => S_ok k (d + 1) (by omega) (by omega) q l h hq2 (by omega) hj2) h2 hh hj hx hp
end CE
