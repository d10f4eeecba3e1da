/-! ===== the class reads the whole text ===== -/
theorem cI_32 {x : Int} (h1 : -2147483648 ≤ x) (h2 : x < 2147483648) : (Int32.ofInt x).toInt = x := Int32.toInt_ofInt_of_le h1 (by omega)
section CR
variable {B : Nat → Nat} {N q : Nat} {D : Nat → Nat} {l : List ms_Op} {u u0 : ms_St} {pv : ms_St → Prop} {post : Int32 → ms_St → Prop}
theorem hd_ok {q' : Nat} {D' : Nat → Nat} {l' : List ms_Op} (he : pz_hd B N = Sum.inr (q', D', l')) : q' ≤ N ∧ pw D' l' := by
  unfold pz_hd at he
  by_cases c : pz_wd B N w_town (pz_s B N 0) = true
  · rw [if_pos c] at he
    obtain ⟨v, q2, n1, he⟩ := nb_inr he
    have hle : pz_s B N 0 + 4 ≤ N := wd_pos (s_le (by omega)) (wk_mem k1) c
    obtain ⟨x1, x2, x3, x4, x5, _⟩ := n_ok (s_le hle) n1
    unfold pz_sc at he
    by_cases c2 : pz_at B N q2 = 59
    · rw [if_pos c2] at he
      have hlt : q2 < N := by
        by_cases z : q2 < N
        · exact z
        · unfold pz_at at c2; rw [if_neg z] at c2; omega
      have e0 := Sum.inr.inj he
      have e1 : pz_s B N (q2 + 1) = q' := congrArg Prod.fst e0
      have e2 : sp_u Dz 0 v = D' := congrArg (fun z => z.2.1) e0
      have e3 : [] = l' := congrArg (fun z => z.2.2) e0
      rw [← e1, ← e2, ← e3]
      have F : ∀ k, k ≠ 0 → k ≠ 5 → sp_u Dz 0 v k = 0 := fun k z1 z2 => by rw [u_at, if_neg z1]; unfold Dz; rw [if_neg z2]
      have F0 : sp_u Dz 0 v 0 = v := by rw [u_at, if_pos rfl]
      have F5 : sp_u Dz 0 v 5 = 60 := by rw [u_at, if_neg (by omega)]; rfl
      refine ⟨s_le (by omega), ⟨?_, ?_, ?_, ?_, ?_, ?_, ?_, ?_, ?_, ?_⟩, fun s z => ?_, fun s z => ?_, fun s z => ?_, fun s z => ?_, fun s z => ?_, fun z => ?_, fun z => ?_⟩
      · rw [F0]; omega
      · rw [F0]; omega
      · rw [F 1 (by omega) (by omega)]; omega
      · rw [F 2 (by omega) (by omega)]; omega
      · rw [F 3 (by omega) (by omega)]; omega
      · rw [F 4 (by omega) (by omega)]; omega
      · rw [F5]; omega
      · rw [F 6 (by omega) (by omega)]; omega
      · rw [F 2000 (by omega) (by omega)]; omega
      · rw [F 2001 (by omega) (by omega)]; omega
      · rw [F 1 (by omega) (by omega)] at z; omega
      · exact F _ (by omega) (by omega)
      · rw [F 2 (by omega) (by omega)] at z; omega
      · rw [F 3 (by omega) (by omega)] at z; omega
      · exact F _ (by omega) (by omega)
      · exact ⟨rfl, F 7 (by omega) (by omega)⟩
      · rw [F 6 (by omega) (by omega)] at z; omega
    · rw [if_neg c2] at he; cases he
  · rw [if_neg c] at he; cases he
theorem c_head (hB : bt_C u0 B N) (hz : cz u0 u B N (pz_s B N 0) Dz []) (hp : cs_P u0 B N post (pz_hd B N)) : wp_X3_header ms_E0 u 23 post := by
  obtain ⟨g1, g2, g3, g4, g5, g6, g7, g8, g9⟩ := id hz
  unfold wp_X3_header wp_X3_fail
  rw [at_23_0, at_23_3]
  unfold pz_hd at hp
  refine c_isWord k1 (by decide) (cz_B hB hz) g2 g3 ?_
  by_cases c : pz_wd B N w_town (pz_s B N 0) = true
  · rw [if_pos c] at hp ⊢
    refine ⟨fun z => absurd z (by decide), fun _ => ?_⟩
    refine z_word k1 (by decide) hB hz c (fun u1 hz1 => ?_)
    refine z_num (post := post) (lo := 1) (hx := 11) hB hz1 (by omega) (by omega) rfl rfl _ hp (fun v hv => ⟨fun _ => hv, fun z => absurd rfl z⟩) (fun v q2 n1 hp u2 hz2 => ⟨fun z => absurd z (NO_ne (by have := (n_ok hz1.2.1 n1).2.2.2.2.1; omega)), fun _ => ?_⟩)
    have F : ∀ k, k ≠ 0 → k ≠ 5 → sp_u Dz 0 v k = 0 := fun k z1 z2 => by rw [u_at, if_neg z1]; unfold Dz; rw [if_neg z2]
    have F0 : sp_u Dz 0 v 0 = v := by rw [u_at, if_pos rfl]
    have G := hz2.2.2.2.2.2.1.1
    have hz3 : cz u0 (ms_sI u2 24 0 (nI v)) B N q2 (sp_u Dz 0 v) [] := by
      refine cz_T hz2 (fun x y z => h1_at (by omega)) rfl ⟨⟨?_, ?_, ?_, ?_, ?_, ?_⟩, fun s z => ?_, fun s z => ?_, fun s z => ?_⟩ ?_ ?_ ?_
      · rw [F0]; show ms_I (ms_sI u2 24 0 (nI v)) 24 0 = nI v; rw [h2_at, if_pos rfl]
      · show ms_I (ms_sI u2 24 0 (nI v)) 24 1 = _; rw [h2_at, if_neg (by omega), u_at, if_neg (by omega)]; exact G.2.1
      · show ms_I (ms_sI u2 24 0 (nI v)) 24 2 = _; rw [h2_at, if_neg (by omega), u_at, if_neg (by omega)]; exact G.2.2.1
      · show ms_I (ms_sI u2 24 0 (nI v)) 25 0 = _; rw [h1_at (by omega), u_at, if_neg (by omega)]; exact G.2.2.2.1
      · show ms_I (ms_sI u2 24 0 (nI v)) 30 0 = _; rw [h1_at (by omega), u_at, if_neg (by omega)]; exact G.2.2.2.2.1
      · show ms_I (ms_sI u2 24 0 (nI v)) 39 0 = _; rw [h1_at (by omega), u_at, if_neg (by omega)]; exact G.2.2.2.2.2
      · rw [F 1 (by omega) (by omega)] at z; omega
      · rw [F 2 (by omega) (by omega)] at z; omega
      · rw [F 3 (by omega) (by omega)] at z; omega
      · rw [u_at, if_neg (by omega)]
      · rw [u_at, if_neg (by omega)]
      · rw [u_at, if_neg (by omega)]
    unfold pz_sc at hp
    refine c_expect (a := 59) (cz_B hB hz3) hz3.2.1 hz3.2.2.1 (Or.inr rfl) (fun z => ?_) (fun z u4 hF4 ht4 => ?_)
    · rw [if_neg z] at hp
      exact ⟨Or.inl rfl, cs_fail (c := 2) hz3.1 rfl hp⟩
    · rw [if_pos z] at hp
      have hlt := (tk_sign hz3.2.2.1 (Or.inr rfl) z).2
      exact ⟨Or.inr rfl, hp u4 (cz_adv hz3 (s_le (by omega)) hF4 ht4)⟩
  · rw [if_neg c] at hp ⊢
    rw [z_f1 hz]
    exact ⟨fun _ => ⟨Or.inl rfl, cs_fail (c := 2) g1 rfl hp⟩, fun z => absurd rfl z⟩
/-! the minutes of a visit -/
def vs_I (u : ms_St) : List Int → Prop
  | [] => True
  | x :: r => ms_I u 48 r.length = Int32.ofInt x ∧ vs_B x ∧ vs_I u r
theorem vs_I_w {k : Nat} {v : Int32} : ∀ {st : List Int}, st.length ≤ k → vs_I u st → vs_I (ms_sI u 48 k v) st
  | [], _, _ => trivial
  | x :: r, hk, h => by
    refine ⟨?_, h.2.1, vs_I_w (by simp at hk; omega) h.2.2⟩
    rw [I_sI, if_neg (by simp at hk; omega)]
    exact h.1
theorem L_lt {a b : Int} (h1 : -10000000000000 ≤ a ∧ a ≤ 10000000000000) (h2 : -10000000000000 ≤ b ∧ b ≤ 10000000000000) : (Int64.ofInt a < Int64.ofInt b) ↔ a < b := by
  rw [Int64.lt_iff_toInt_lt, L_toInt h1.1 h1.2, L_toInt h2.1 h2.2]
theorem c_clamp {z : Int} (h1 : -10000000000000 ≤ z) (h2 : z ≤ 10000000000000) {a0 a1 a2 : Int32} (hp : post (Int32.ofInt (sp_cl z)) u) : wp_X8_combine_56 ms_E0 a0 a1 a2 post u (Int64.ofInt z) := by
  have e1 : (1000000 : Int64) = Int64.ofInt 1000000 := rfl
  have e2 : (-1000000 : Int64) = Int64.ofInt (-1000000) := rfl
  have q1 := L_lt (a := 1000000) (b := z) ⟨by omega, by omega⟩ ⟨h1, h2⟩
  have q2 := L_lt (a := z) (b := -1000000) ⟨h1, h2⟩ ⟨by omega, by omega⟩
  have q3 := L_lt (a := 1000000) (b := -1000000) ⟨by omega, by omega⟩ ⟨by omega, by omega⟩
  unfold wp_X8_combine_56
  rw [e2, e1]
  unfold sp_cl at hp
  by_cases c1 : 1000000 < z
  · rw [if_pos c1] at hp
    rw [if_pos (q1.mpr c1), if_neg (fun z => by have := q3.mp z; omega), Int64.toInt32_ofInt]
    exact hp
  · rw [if_neg c1] at hp
    rw [if_neg (fun z => c1 (q1.mp z))]
    by_cases c2 : z < -1000000
    · rw [if_pos c2] at hp
      rw [if_pos (q2.mpr c2), Int64.toInt32_ofInt]
      exact hp
    · rw [if_neg c2] at hp
      rw [if_neg (fun z => c2 (q2.mp z)), Int64.toInt32_ofInt]
      exact hp
theorem t_min : Int32.minValue.toInt = -2147483648 := by decide
theorem t_ey {y : Int} (h : vs_B y) : Int32.ofInt y = 0 ↔ y = 0 := by
  unfold vs_B at h
  rw [← Int32.toInt_inj, cI_32 (by omega) (by omega), Int32.toInt_zero]
theorem t_L {z : Int} (h1 : -2000000000 ≤ z) (h2 : z ≤ 2000000000) : Int32.toInt64 (Int32.ofInt z) = Int64.ofInt z := by
  rw [← Int64.toInt_inj, Int32.toInt_toInt64, cI_32 (by omega) (by omega), L_toInt (by omega) (by omega)]
theorem t_div {x y : Int} (hx : vs_B x) (hy : vs_B y) : Int32.ofInt x / Int32.ofInt y = Int32.ofInt (x.tdiv y) := by
  have hd := tdiv_B (y := y) hx
  unfold vs_B at hd hx hy
  rw [← Int32.toInt_inj, Int32.toInt_div_of_ne_left, cI_32 (by omega) (by omega), cI_32 (by omega) (by omega), cI_32 (by omega) (by omega)]
  intro q
  have : (Int32.ofInt x).toInt = Int32.minValue.toInt := by rw [q]
  rw [cI_32 (by omega) (by omega), t_min] at this
  omega
theorem cl_id {z : Int} (h : vs_B z) : sp_cl z = z := by
  unfold vs_B at h
  unfold sp_cl
  rw [if_neg (by omega), if_neg (by omega)]
theorem cd_2 {v : Nat} : cd (2, v) = -4 := rfl
theorem cd_3 {v : Nat} : cd (3, v) = -5 := rfl
theorem cd_4 {v : Nat} : cd (4, v) = -6 := rfl
theorem cd_5 {v : Nat} : cd (5, v) = -7 := rfl
theorem c_combine {k v : Nat} {x y : Int} (hk : 2 ≤ k ∧ k ≤ 5) (hx : vs_B x) (hy : vs_B y) (hp : post (Int32.ofInt (sp_op k x y)) u) : wp_X8_combine ms_E0 u (cd (k, v)) (Int32.ofInt x) (Int32.ofInt y) post := by
  have hm := mul_B hx hy
  have hx' := hx
  have hy' := hy
  unfold vs_B at hx' hy'
  unfold sp_op at hp
  unfold wp_X8_combine wp_X8_combine_55
  have hk' : k = 2 ∨ k = 3 ∨ k = 4 ∨ k = 5 := by omega
  rcases hk' with rfl | rfl | rfl | rfl
  · rw [cd_2]
    refine ⟨fun _ v10 e10 => ?_, fun z => absurd rfl z⟩
    rw [if_neg (by omega), if_pos rfl] at hp
    rw [e10, ← Int32.ofInt_add, t_L (by omega) (by omega)]
    exact c_clamp (by omega) (by omega) hp
  · rw [cd_3]
    refine ⟨fun z => absurd z (by decide), fun _ => ⟨fun _ v10 e10 => ?_, fun z => absurd rfl z⟩⟩
    rw [if_neg (by omega), if_neg (by omega), if_pos rfl] at hp
    rw [e10, ← Int32.ofInt_sub, t_L (by omega) (by omega)]
    exact c_clamp (by omega) (by omega) hp
  · rw [cd_4]
    refine ⟨fun z => absurd z (by decide), fun _ => ⟨fun z => absurd z (by decide), fun _ => ⟨fun _ v10 e10 => ?_, fun z => absurd rfl z⟩⟩⟩
    rw [if_neg (by omega), if_neg (by omega), if_neg (by omega)] at hp
    rw [e10, t_L (by omega) (by omega), t_L (by omega) (by omega), ← Int64.ofInt_mul]
    exact c_clamp (by omega) (by omega) hp
  · rw [cd_5]
    refine ⟨fun z => absurd z (by decide), fun _ => ⟨fun z => absurd z (by decide), fun _ => ⟨fun z => absurd z (by decide), fun _ => ?_⟩⟩⟩
    rw [if_pos rfl] at hp
    rw [t_ey hy]
    refine ⟨fun z => ?_, fun z => ⟨z, ?_⟩⟩
    · rw [if_pos z] at hp
      have e0 : (0 : Int64) = Int64.ofInt 0 := rfl
      rw [e0]
      exact c_clamp (z := 0) (by omega) (by omega) (by rw [cl_id (by unfold vs_B; omega)]; exact hp)
    · rw [if_neg z] at hp
      have hd := tdiv_B (y := y) hx
      have hd' := hd
      unfold vs_B at hd'
      rw [t_div hx hy, t_L (by omega) (by omega)]
      exact c_clamp (by omega) (by omega) (by rw [cl_id hd]; exact hp)
def vc_F (u0 u : ms_St) : Prop := (∀ a b, a ≠ 48 → ms_I u a b = ms_I u0 a b) ∧ ms_J u = ms_J u0
theorem c_min {p g c : Nat} (hp1 : p < 10000 ∧ g < 10000 ∧ c < 10000) {l0 : List ms_Op} (hl0 : l0.length ≤ 900) (hc0 : codes u0 l0) : ∀ (l : List ms_Op) (u : ms_St) (i : Nat) (st : List Int), i + l.length = l0.length → (∀ j, j < l.length → l0.getD (i + j) (0, 0) = l.getD j (0, 0)) → sp_wf l st.length → st.length ≤ 16 → vs_I u st → vc_F u0 u → (∀ u', vc_F u0 u' → post (nI (sp_min ((sp_ev p g c l st).headD 0))) u') → wp_X8_minutes_16 ms_E0 46 (nI p) (nI g) (nI c) post (l.length + 1) u (nI st.length) (nI i)
  | [], u, i, st, hi, hC, hw, hl, hJ, hF, hp => by
    have hw' : st.length = 1 := hw
    obtain ⟨x, rfl⟩ : ∃ x, st = [x] := by
      match st, hw' with
      | [x], _ => exact ⟨x, rfl⟩
    have hx : ms_I u 48 0 = Int32.ofInt x := hJ.1
    have hB := hJ.2.1
    unfold vs_B at hB
    have e46 : ms_I u 46 1 = nI l0.length := by rw [hF.1 46 1 (by omega)]; exact hc0.1
    have p9 : post (nI (sp_min x)) u := hp u hF
    have e1 : (1 : Int32) = Int32.ofInt 1 := rfl
    have e240 : (240 : Int32) = Int32.ofInt 240 := rfl
    have lt : ∀ {a b : Int}, -2000000000 ≤ a ∧ a ≤ 2000000000 → -2000000000 ≤ b ∧ b ≤ 2000000000 → (Int32.ofInt a < Int32.ofInt b ↔ a < b) := by
      intro a b h1 h2
      rw [Int32.lt_iff_toInt_lt, cI_32 (by omega) (by omega), cI_32 (by omega) (by omega)]
    have q1 := lt (a := 240) (b := x) (by omega) (by omega)
    have q2 := lt (a := 1) (b := x) (by omega) (by omega)
    unfold sp_min at p9
    unfold wp_X8_minutes_16
    rw [at_46_2, at_46_0, show Int32.toNatClampNeg 0 = 0 from rfl, hx, e46]
    refine ⟨fun _ => ⟨vi 0 16, ?_⟩, fun q => absurd (nI_le (by simp at hi; omega) (by omega)) q⟩
    rw [e240]
    by_cases c1 : 240 < x
    · rw [if_neg (by omega), if_pos c1] at p9
      rw [if_pos (q1.mpr c1), if_pos (by decide)]
      exact p9
    · rw [if_neg (fun z => c1 (q1.mp z)), e1]
      by_cases c2 : 1 < x
      · rw [if_neg (by omega), if_neg c1] at p9
        rw [if_pos (q2.mpr c2), ofI_nat (by omega)]
        exact p9
      · rw [if_neg (fun z => c2 (q2.mp z))]
        by_cases c3 : x < 1
        · rw [if_pos c3] at p9; exact p9
        · rw [if_neg c3, if_neg c1, show x = 1 by omega] at p9; exact p9
  | (k, v) :: l, u, i, st, hi, hC, hw, hl, hJ, hF, hp => by
    simp only [List.length_cons] at hi hC
    have e46 : ms_I u 46 1 = nI l0.length := by rw [hF.1 46 1 (by omega)]; exact hc0.1
    have e47 : ms_I u 47 i = cd (k, v) := by
      rw [hF.1 47 i (by omega), hc0.2 i (by omega)]
      exact congrArg cd (hC 0 (by omega))
    have hCn : ∀ j, j < l.length → l0.getD (i + 1 + j) (0, 0) = l.getD j (0, 0) := fun j hj => by
      have := hC (j + 1) (by omega)
      rw [show i + 1 + j = i + (j + 1) by omega, this]
      simp
    have q0 : ¬ nI l0.length ≤ nI i := nI_ge (by omega) (by omega)
    have vI : vp_in (nI i) 900 := vp_in_nI (by omega) (by omega)
    rw [show ((k, v) :: l).length + 1 = (l.length + 1) + 1 from rfl]
    unfold wp_X8_minutes_16 wp_X8_minutes_111
    rw [at_46_2, at_46_0, e46, nI_clamp (show i < 2 ^ 31 by omega), e47, nI_1 i]
    refine ⟨fun z => absurd z q0, fun _ => ⟨vI, fun v32 e32 => ?_⟩⟩
    subst e32
    by_cases hk : k ≤ 1
    · have hw' : st.length < 16 ∧ v < 10000 ∧ sp_wf l (st.length + 1) := by simpa [sp_wf, hk] using hw
      have st1 : ∀ w : Nat, w < 10000 → sp_ev p g c ((k, v) :: l) st = sp_ev p g c l ((w : Int) :: st) → vp_in (nI st.length) 16 ∧ wp_X8_minutes_16 ms_E0 46 (nI p) (nI g) (nI c) post (l.length + 1) (ms_sI u 48 (Int32.toNatClampNeg (nI st.length)) (nI w)) (nI st.length + 1) (nI (i + 1)) := by
        intro w hw9 ew
        refine ⟨vp_in_nI (by omega) (by omega), ?_⟩
        rw [nI_clamp (by omega), nI_1]
        have hJ' : vs_I (ms_sI u 48 st.length (nI w)) ((w : Int) :: st) := ⟨by rw [I_sI, if_pos ⟨rfl, rfl⟩, nI_ofI], by unfold vs_B; omega, vs_I_w (Nat.le_refl _) hJ⟩
        refine c_min hp1 hl0 hc0 l _ (i + 1) ((w : Int) :: st) (by omega) hCn hw'.2.2 (by simp; omega) hJ' ⟨fun a b z => ?_, hF.2⟩ ?_
        · rw [I_sI, if_neg (by omega)]; exact hF.1 a b z
        · rw [← ew]
          exact hp
      have hlt : ¬ nI 16 ≤ nI st.length := nI_ge (by omega) (by omega)
      by_cases k0 : k = 0
      · have ecd : cd (k, v) = nI v := by rw [k0]; rfl
        rw [ecd]
        have n4 : (-4 : Int32) < nI v := by
          rw [Int32.lt_iff_toInt_lt, nI_toInt (by omega), show (-4 : Int32).toInt = -4 by decide]; omega
        have ne : ∀ {x : Int32}, x < 0 → ¬ nI v = x := fun h e => nI_pos (show v < 2 ^ 31 by omega) (by rw [e]; exact h)
        refine ⟨fun _ => ⟨fun z => absurd z hlt, fun _ => ?_⟩, fun z => absurd n4 z⟩
        unfold wp_X8_operand wp_X8_operand_26
        exact ⟨fun z => absurd z (ne (by decide)), fun _ => ⟨fun z => absurd z (ne (by decide)), fun _ => ⟨fun z => absurd z (ne (by decide)), fun _ => st1 v hw'.2.1 (by simp [sp_ev, k0])⟩⟩⟩
      · have k1 : k = 1 := by omega
        unfold wp_X8_operand wp_X8_operand_26
        by_cases v0 : v = 0
        · have ecd : cd (k, v) = -1 := by rw [k1, v0]; rfl
          rw [ecd]
          refine ⟨fun _ => ⟨fun z => absurd z hlt, fun _ => ⟨fun _ => st1 p hp1.1 (by simp [sp_ev, k1, v0]), fun z => absurd rfl z⟩⟩, fun z => absurd (by decide) z⟩
        · by_cases v1 : v = 1
          · have ecd : cd (k, v) = -2 := by rw [k1, v1]; rfl
            rw [ecd]
            refine ⟨fun _ => ⟨fun z => absurd z hlt, fun _ => ⟨fun z => absurd z (by decide), fun _ => ⟨fun _ => st1 g hp1.2.1 (by simp [sp_ev, k1, v1]), fun z => absurd rfl z⟩⟩⟩, fun z => absurd (by decide) z⟩
          · have ecd : cd (k, v) = -3 := by
              unfold cd
              rw [if_neg k0, if_pos k1, if_neg v0, if_neg v1]
            rw [ecd]
            refine ⟨fun _ => ⟨fun z => absurd z hlt, fun _ => ⟨fun z => absurd z (by decide), fun _ => ⟨fun z => absurd z (by decide), fun _ => ⟨fun _ => st1 c hp1.2.2 (by simp [sp_ev, k1, v0, v1]), fun z => absurd rfl z⟩⟩⟩⟩, fun z => absurd (by decide) z⟩
    · have hw' : 2 ≤ st.length ∧ k ≤ 5 ∧ sp_wf l (st.length - 1) := by simpa [sp_wf, hk] using hw
      obtain ⟨y, x, r, rfl⟩ : ∃ y x r, st = y :: x :: r := by
        match st, hw'.1 with
        | y :: x :: r, _ => exact ⟨y, x, r, rfl⟩
      simp only [List.length_cons] at hw' hl
      have hy : ms_I u 48 (r.length + 1) = Int32.ofInt y := hJ.1
      have hx : ms_I u 48 r.length = Int32.ofInt x := hJ.2.2.1
      have n4 : ¬ (-4 : Int32) < cd (k, v) := by
        have hk' : k = 2 ∨ k = 3 ∨ k = 4 ∨ k = 5 := by omega
        rcases hk' with rfl | rfl | rfl | rfl
        · rw [cd_2]; decide
        · rw [cd_3]; decide
        · rw [cd_4]; decide
        · rw [cd_5]; decide
      have a1 : nI (r.length + 1 + 1) + -1 = nI (r.length + 1) := pk_m1 _
      have a2 : nI (r.length + 1) - 1 = nI r.length := nI_pred _
      rw [show (y :: x :: r).length = r.length + 1 + 1 from rfl]
      refine ⟨fun z => absurd z n4, fun _ => ⟨fun z => absurd z (nI_nlt (a := r.length + 1 + 1) (b := 2) (by omega) (by omega)), fun _ => ?_⟩⟩
      rw [a1, a2, nI_clamp (by omega), nI_clamp (by omega), hx, hy]
      have w1 : vp_in (nI r.length) 16 := vp_in_nI (by omega) (by omega)
      refine ⟨w1, vp_in_nI (by omega) (by omega), c_combine ⟨by omega, hw'.2.1⟩ hJ.2.2.2.1 hJ.2.1 ⟨w1, ?_⟩⟩
      have hJ' : vs_I (ms_sI u 48 r.length (Int32.ofInt (sp_op k x y))) (sp_op k x y :: r) := ⟨by rw [I_sI, if_pos ⟨rfl, rfl⟩], op_B hJ.2.2.2.1, vs_I_w (Nat.le_refl _) hJ.2.2.2.2⟩
      refine c_min hp1 hl0 hc0 l _ (i + 1) (sp_op k x y :: r) (by omega) hCn hw'.2.2 (by simp; omega) hJ' ⟨fun a b z => ?_, hF.2⟩ ?_
      · rw [I_sI, if_neg (by omega)]; exact hF.1 a b z
      · have ev : sp_ev p g c ((k, v) :: l) (y :: x :: r) = sp_ev p g c l (sp_op k x y :: r) := by
          simp [sp_ev, show k ≠ 0 by omega, show k ≠ 1 by omega]
        rw [← ev]
        exact hp
end CR
