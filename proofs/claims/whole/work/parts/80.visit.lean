/-! ===== the visit expression ===== -/
theorem L_toInt {z : Int} (h1 : -10000000000000 ≤ z) (h2 : z ≤ 10000000000000) : (Int64.ofInt z).toInt = z := Int64.toInt_ofInt_of_le (by omega) (by omega)
theorem I_toInt {z : Int} (h1 : -2000000000 ≤ z) (h2 : z ≤ 2000000000) : (Int32.ofInt z).toInt = z := Int32.toInt_ofInt_of_le (by omega) (by omega)
def vs_B (x : Int) : Prop := -1000000 ≤ x ∧ x ≤ 1000000
theorem tdiv_B {x y : Int} (hx : vs_B x) : vs_B (x.tdiv y) := by
  have h1 : (x.tdiv y).natAbs ≤ x.natAbs := by
    rw [Int.natAbs_tdiv]
    exact Nat.div_le_self _ _
  unfold vs_B at *
  omega
theorem cl_B {z : Int} : vs_B (sp_cl z) := by
  unfold sp_cl vs_B
  split
  · omega
  · split <;> omega
theorem op_B {k : Nat} {x y : Int} (hx : vs_B x) : vs_B (sp_op k x y) := by
  unfold sp_op
  split
  · split
    · unfold vs_B; omega
    · exact tdiv_B hx
  · exact cl_B
theorem mul_B {x y : Int} (hx : vs_B x) (hy : vs_B y) : -1000000000000 ≤ x * y ∧ x * y ≤ 1000000000000 := by
  have h : (x * y).natAbs ≤ 1000000 * 1000000 := by
    rw [Int.natAbs_mul]
    exact Nat.mul_le_mul (by unfold vs_B at hx; omega) (by unfold vs_B at hy; omega)
  omega
theorem ofI_nat {z : Int} (h : 0 ≤ z) : Int32.ofInt z = nI z.toNat := by
  obtain ⟨n, rfl⟩ := Int.eq_ofNat_of_zero_le h
  rw [Int32.ofInt_eq_ofNat]
  rfl
theorem ofL_nat {n : Nat} (h : n < 2 ^ 31) : Int32.toInt64 (nI n) = Int64.ofInt n := by
  rw [← Int64.toInt_inj, Int32.toInt_toInt64, nI_toInt h, L_toInt (by omega) (by omega)]
section VM
variable {E : ms_En} {u : ms_St} {postL : Int64 → ms_St → Prop} {k : Nat} {x y z : Int}
theorem m_limited (h1 : -10000000000000 ≤ z) (h2 : z ≤ 10000000000000) (hp : postL (Int64.ofInt (sp_cl z)) u) : wp_X11_limited E u (Int64.ofInt z) postL := by
  have e1 : (1000000 : Int64) = Int64.ofInt 1000000 := rfl
  have e2 : (-1000000 : Int64) = Int64.ofInt (-1000000) := rfl
  unfold wp_X11_limited wp_X11_limited_29
  rw [lg_cmp_le, lg_cmp_ge, e2, e1, Int64.le_iff_toInt_le, Int64.le_iff_toInt_le, L_toInt h1 h2, L_toInt (by omega) (by omega), L_toInt (by omega) (by omega)]
  unfold sp_cl at hp
  refine ⟨fun q => ⟨fun q2 => ?_, fun q2 => ?_⟩, fun q => ?_⟩
  · rw [if_neg (by omega), if_neg (by omega)] at hp; exact hp
  · rw [if_neg (by omega), if_pos (by omega)] at hp; exact hp
  · rw [if_pos (by omega)] at hp; exact hp
theorem m_operate (hk : 2 ≤ k ∧ k ≤ 5) (hx : vs_B x) (hy : vs_B y) (hp : postL (Int64.ofInt (sp_op k x y)) u) : wp_X11_operate E u (nI k) (Int64.ofInt x) (Int64.ofInt y) postL := by
  have hm := mul_B hx hy
  unfold sp_op at hp
  unfold wp_X11_operate wp_X11_operate_44 wp_X11_operate_18
  have e0 : (0 : Int64) = Int64.ofInt 0 := rfl
  have ey : Int64.ofInt y = 0 ↔ y = 0 := by
    rw [e0, ← Int64.toInt_inj, L_toInt (by unfold vs_B at hy; omega) (by unfold vs_B at hy; omega), L_toInt (by omega) (by omega)]
  have ed : Int64.ofInt x / Int64.ofInt y = Int64.ofInt (x.tdiv y) := by
    have hd := tdiv_B (y := y) hx
    rw [← Int64.toInt_inj, Int64.toInt_div_of_ne_left, L_toInt (by unfold vs_B at hx; omega) (by unfold vs_B at hx; omega), L_toInt (by unfold vs_B at hy; omega) (by unfold vs_B at hy; omega), L_toInt (by unfold vs_B at hd; omega) (by unfold vs_B at hd; omega)]
    intro q
    have : (Int64.ofInt x).toInt = Int64.minValue.toInt := by rw [q]
    rw [L_toInt (by unfold vs_B at hx; omega) (by unfold vs_B at hx; omega), show Int64.minValue.toInt = -9223372036854775808 from rfl] at this
    unfold vs_B at hx
    omega
  unfold vs_B at hx hy
  refine pk_eq k 5 (fun q => ?_) (fun q => ?_)
  · rw [if_pos q] at hp
    rw [lg_cmp_0, ey, ed]
    refine ⟨fun q2 => ?_, fun q2 => ⟨q2, ?_⟩⟩
    · rw [if_pos q2] at hp; exact hp
    · rw [if_neg q2] at hp; exact hp
  rw [if_neg q] at hp
  refine pk_eq k 2 (fun q2 => ?_) (fun q2 => ?_)
  · rw [if_pos q2] at hp
    rw [← Int64.ofInt_add]
    exact m_limited (by omega) (by omega) hp
  rw [if_neg q2] at hp
  refine pk_eq k 3 (fun q3 => ?_) (fun q3 => ?_)
  · rw [if_pos q3] at hp
    rw [← Int64.ofInt_sub]
    exact m_limited (by omega) (by omega) hp
  rw [if_neg q3] at hp
  rw [← Int64.ofInt_mul]
  exact m_limited (by omega) (by omega) hp
end VM
def vs_J (u : ms_St) : List Int → Prop
  | [] => True
  | x :: r => ms_J u 257 r.length = Int64.ofInt x ∧ vs_B x ∧ vs_J u r
theorem vs_J_w {u : ms_St} {k : Nat} {v : Int64} : ∀ {st : List Int}, st.length ≤ k → vs_J u st → vs_J (ms_sJ u 257 k v) st
  | [], _, _ => trivial
  | x :: r, hk, h => by
    refine ⟨?_, h.2.1, vs_J_w (by simp at hk; omega) h.2.2⟩
    rw [J_sJ, if_neg (by simp at hk; omega)]
    exact h.1
/-- the codes from place i on -/
def vs_C (D : Nat → Nat) (i : Nat) (l : List ms_Op) : Prop := D 7 = i + (sp_fl l).length ∧ ∀ j, j < (sp_fl l).length → D (213 + (i + j)) = (sp_fl l).getD j 0
theorem m_vl {u0 : ms_St} {D : Nat → Nat} {l0 : List ms_Op} {post : Int32 → ms_St → Prop} {h c : Nat} (hV : sp_V D l0) (hM : sp_M u0 235 D) (h7 : D 7 ≤ 1400) (hh : h < D 2) (hc : c ≤ 2) : ∀ (l : List ms_Op) (u : ms_St) (i : Nat) (st : List Int), vs_C D i l → sp_wf l st.length → st.length ≤ 16 → vs_J u st → ms_I u = ms_I u0 → (∀ a, a ≠ 257 → ms_J u a = ms_J u0 a) → (∀ u', ms_I u' = ms_I u0 → (∀ a, a ≠ 257 → ms_J u' a = ms_J u0 a) → post (nI (sp_min ((sp_ev (D (56 + 7 * h + 3)) (D (56 + 7 * h + 6)) c l st).headD 0))) u') → wp_X11_visit_18 ms_E0 233 (nI h) (nI c) post (l.length + 1) u (nI st.length) (nI i)
  | [], u, i, st, hC, hw, hl, hJ, hI, hF, hp => by
    have c2 := hV.1.2.2.1
    have e7 : D 7 = i := by have := hC.1; simp [sp_fl] at this; exact this
    have hw' : st.length = 1 := hw
    obtain ⟨x, rfl⟩ : ∃ x, st = [x] := by
      match st, hw' with
      | [x], _ => exact ⟨x, rfl⟩
    have hx : ms_J u 257 0 = Int64.ofInt x := hJ.1
    have hB := hJ.2.1
    unfold vs_B at hB
    have e1 : (1 : Int64) = Int64.ofInt 1 := rfl
    have e240 : (240 : Int64) = Int64.ofInt 240 := rfl
    have p9 : post (nI (sp_min x)) u := hp u hI hF
    unfold sp_min at p9
    unfold wp_X11_visit_18 wp_X11_visit_209
    rw [at_233_8, at_233_16, show Int32.toNatClampNeg 7 = 7 from rfl, show Int32.toNatClampNeg 0 = 0 from rfl, hI, hM 7 (by omega), hx, lg_cmp_ge, lg_cmp_le, e1, e240, Int64.le_iff_toInt_le, Int64.le_iff_toInt_le, L_toInt (by omega) (by omega), L_toInt (by omega) (by omega), L_toInt (by omega) (by omega)]
    refine ⟨vi 7 1613, fun _ => ⟨vi 0 1400, fun q => ⟨vi 0 1400, fun q2 => ⟨vi 0 1400, ?_⟩, fun q2 => ?_⟩, fun q => ?_⟩, fun q => absurd (nI_le (by omega) (by omega)) q⟩
    · rw [if_neg (by omega), if_neg (by omega)] at p9
      rw [Int64.toInt32_ofInt, ofI_nat (by omega)]
      exact p9
    · rw [if_neg (by omega), if_pos (by omega)] at p9; exact p9
    · rw [if_pos (by omega)] at p9; exact p9
  | (k, v) :: l, u, i, st, hC, hw, hl, hJ, hI, hF, hp => by
    have c2 := hV.1.2.2.1
    have vh := hV.2.2.1 h hh
    have hM' : sp_M u 235 D := fun j hj => by rw [hI]; exact hM j hj
    by_cases hk : k ≤ 1
    · -- a value
      have efl : sp_fl ((k, v) :: l) = k :: v :: sp_fl l := by simp [sp_fl, hk]
      have hw' : st.length < 16 ∧ v < 10000 ∧ sp_wf l (st.length + 1) := by simpa [sp_wf, hk] using hw
      have hC1 := hC.1
      have hC2 := hC.2
      rw [efl] at hC1 hC2
      simp only [List.length_cons] at hC1 hC2
      have d0 : D (213 + i) = k := hC2 0 (by omega)
      have d1 : D (213 + (i + 1)) = v := hC2 1 (by omega)
      have hCn : vs_C D (i + 2) l := ⟨by omega, fun j hj => by
        have := hC2 (j + 2) (by omega)
        rw [show i + 2 + j = i + (j + 2) by omega, this]
        simp⟩
      have st1 : ∀ w : Nat, w < 10000 → sp_ev (D (56 + 7 * h + 3)) (D (56 + 7 * h + 6)) c ((k, v) :: l) st = sp_ev (D (56 + 7 * h + 3)) (D (56 + 7 * h + 6)) c l ((w : Int) :: st) → wp_X11_visit_125 ms_E0 233 (nI h) (nI c) post (wp_X11_visit_18 ms_E0 233 (nI h) (nI c) post (l.length + 1)) u (nI st.length) (nI i + 1) (Int64.ofInt w) (nI st.length) 257 := by
        intro w hw9 ew
        unfold wp_X11_visit_125 wp_X11_visit_162
        refine ⟨vp_in_nI (by omega) (by omega), ?_⟩
        rw [nI_clamp (by omega), nI_1, nI_1, nI_1]
        have hJ' : vs_J (ms_sJ u 257 st.length (Int64.ofInt w)) ((w : Int) :: st) := ⟨by rw [J_sJ, if_pos ⟨rfl, rfl⟩], by unfold vs_B; omega, vs_J_w (Nat.le_refl _) hJ⟩
        refine m_vl hV hM h7 hh hc l _ (i + 2) ((w : Int) :: st) hCn hw'.2.2 (by simp; omega) hJ' hI ?_ ?_
        · intro a ha
          funext b
          rw [J_sJ, if_neg (by omega), hF a ha]
        · rw [← ew]
          exact hp
      have e0 : (nI i + 1 : Int32) = nI (i + 1) := nI_1 i
      have q0 : ¬ nI (D 7) ≤ nI i := nI_ge (by omega) (by omega)
      have v1 : vp_in (nI (213 + i)) 1613 := vp_in_nI (by omega) (by omega)
      have v2 : vp_in (nI (213 + (i + 1))) 1613 := vp_in_nI (by omega) (by omega)
      rw [show ((k, v) :: l).length + 1 = (l.length + 1) + 1 from rfl]
      unfold wp_X11_visit_18
      rw [at_233_8, at_233_16, show Int32.toNatClampNeg 7 = 7 from rfl, hM' 7 (by omega), e0, show (213 : Int32) = nI 213 from rfl, nI_add, nI_add, nI_clamp (show 213 + i < 2 ^ 31 by omega), nI_clamp (show 213 + (i + 1) < 2 ^ 31 by omega), hM' _ (show 213 + i < 1613 by omega), hM' _ (show 213 + (i + 1) < 1613 by omega), d0, d1]
      rw [e0] at st1
      refine ⟨vi 7 1613, fun q => absurd q q0, fun _ => ⟨v1, fun v41 e41 => ?_⟩⟩
      subst e41
      refine ⟨fun q => absurd q (nI_nlt (a := 1) hk (by decide)), fun _ => ⟨v2, fun v63 e63 => ?_⟩⟩
      subst e63
      refine pk_eq k 0 (fun q => ?_) (fun q => pk_eq v 0 (fun q2 => ?_) (fun q2 => pk_eq v 1 (fun q3 => ?_) (fun q3 => ?_)))
      · rw [ofL_nat (by omega)]
        exact st1 v hw'.2.1 (by simp [sp_ev, q])
      · unfold wp_X11_house
        dsimp only
        rw [show (3 : Int32) = nI 3 from rfl, ixH, nI_clamp (by omega), hM' _ (show 56 + 7 * h + 3 < 1613 by omega), ofL_nat (by omega)]
        exact ⟨vp_in_nI (by omega) (by omega), st1 _ (by omega) (by simp [sp_ev, q, q2, show k = 1 by omega])⟩
      · unfold wp_X11_house
        dsimp only
        rw [show (6 : Int32) = nI 6 from rfl, ixH, nI_clamp (by omega), hM' _ (show 56 + 7 * h + 6 < 1613 by omega), ofL_nat (by omega)]
        exact ⟨vp_in_nI (by omega) (by omega), st1 _ (by omega) (by simp [sp_ev, q, q2, q3, show k = 1 by omega])⟩
      · rw [ofL_nat (by omega)]
        exact st1 _ (by omega) (by simp [sp_ev, q, q2, q3, show k = 1 by omega])
    · -- an operation
      have efl : sp_fl ((k, v) :: l) = k :: sp_fl l := by simp [sp_fl, hk]
      have hw' : 2 ≤ st.length ∧ k ≤ 5 ∧ sp_wf l (st.length - 1) := by simpa [sp_wf, hk] using hw
      obtain ⟨y, x, r, rfl⟩ : ∃ y x r, st = y :: x :: r := by
        match st, hw'.1 with
        | y :: x :: r, _ => exact ⟨y, x, r, rfl⟩
      have hC1 := hC.1
      have hC2 := hC.2
      rw [efl] at hC1 hC2
      simp only [List.length_cons] at hC1 hC2 hw' hl
      have d0 : D (213 + i) = k := hC2 0 (by omega)
      have hCn : vs_C D (i + 1) l := ⟨by omega, fun j hj => by
        have := hC2 (j + 1) (by omega)
        rw [show i + 1 + j = i + (j + 1) by omega, this]
        simp⟩
      have hy : ms_J u 257 (r.length + 1) = Int64.ofInt y := hJ.1
      have hx : ms_J u 257 r.length = Int64.ofInt x := hJ.2.2.1
      have q0 : ¬ nI (D 7) ≤ nI i := nI_ge (by omega) (by omega)
      have v1 : vp_in (nI (213 + i)) 1613 := vp_in_nI (by omega) (by omega)
      have a1 : nI (r.length + 1 + 1) + -1 = nI (r.length + 1) := pk_m1 _
      have a2 : nI (r.length + 1) - 1 = nI r.length := nI_pred _
      rw [show ((k, v) :: l).length + 1 = (l.length + 1) + 1 from rfl, show (y :: x :: r).length = r.length + 1 + 1 from rfl]
      unfold wp_X11_visit_18
      rw [at_233_8, at_233_16, show Int32.toNatClampNeg 7 = 7 from rfl, hM' 7 (by omega), show (213 : Int32) = nI 213 from rfl, nI_add, nI_clamp (show 213 + i < 2 ^ 31 by omega), hM' _ (show 213 + i < 1613 by omega), d0]
      refine ⟨vi 7 1613, fun q => absurd q q0, fun _ => ⟨v1, fun v41 e41 => ?_⟩⟩
      subst e41
      refine ⟨fun _ => ?_, fun q => absurd (nI_lt (a := 1) (by omega) (by omega)) q⟩
      rw [a1, a2, nI_clamp (by omega), nI_clamp (by omega), hx, hy]
      have w1 : vp_in (nI r.length) 1400 := vp_in_nI (by omega) (by omega)
      refine ⟨w1, vp_in_nI (by omega) (by omega), m_operate ⟨by omega, hw'.2.1⟩ hJ.2.2.2.1 hJ.2.1 ⟨w1, ?_⟩⟩
      unfold wp_X11_visit_162
      rw [nI_1]
      have hJ' : vs_J (ms_sJ u 257 r.length (Int64.ofInt (sp_op k x y))) (sp_op k x y :: r) := ⟨by rw [J_sJ, if_pos ⟨rfl, rfl⟩], op_B hJ.2.2.2.1, vs_J_w (Nat.le_refl _) hJ.2.2.2.2⟩
      refine m_vl hV hM h7 hh hc l _ (i + 1) (sp_op k x y :: r) hCn hw'.2.2 (by simp; omega) hJ' hI ?_ ?_
      · intro a ha
        funext b
        rw [J_sJ, if_neg (by omega), hF a ha]
      · have ev : sp_ev (D (56 + 7 * h + 3)) (D (56 + 7 * h + 6)) c ((k, v) :: l) (y :: x :: r) = sp_ev (D (56 + 7 * h + 3)) (D (56 + 7 * h + 6)) c l (sp_op k x y :: r) := by
          simp [sp_ev, show k ≠ 0 by omega, show k ≠ 1 by omega]
        rw [← ev]
        exact hp
theorem m_visit {u : ms_St} {D : Nat → Nat} {l : List ms_Op} {post : Int32 → ms_St → Prop} {h c : Nat} (hV : sp_V D l) (hM : sp_M u 235 D) (hh : h < D 2) (hc : c ≤ 2) (hp : ∀ u', ms_I u' = ms_I u → (∀ a, a ≠ 257 → ms_J u' a = ms_J u a) → post (nI (sp_vis D l h (D (56 + 7 * h + 6)) c)) u') : wp_X11_visit ms_E0 u 233 (nI h) (nI c) post := by
  have c6 := hV.1.2.2.2.2.2.2
  unfold sp_vis at hp
  unfold wp_X11_visit
  rw [at_233_8, show Int32.toNatClampNeg 6 = 6 from rfl, hM 6 (by omega)]
  refine ⟨vi 6 1613, pk_eq (D 6) 0 (fun q => ?_) (fun q => ⟨l.length + 1, ?_⟩)⟩
  · rw [if_pos q] at hp
    exact hp u rfl (fun _ _ => rfl)
  · rw [if_neg q] at hp
    obtain ⟨f1, f2, f3, f4⟩ := hV.2.2.2.2 (by omega)
    exact m_vl hV hM f2 hh hc l u 0 [] ⟨by omega, fun j hj => by rw [Nat.zero_add]; exact f4 j (by omega)⟩ f3 (by simp) trivial rfl (fun _ _ => rfl) hp
theorem vis_le {D : Nat → Nat} {l : List ms_Op} {h g c : Nat} : 1 ≤ sp_vis D l h g c ∧ sp_vis D l h g c ≤ 240 := by
  unfold sp_vis sp_min
  split
  · omega
  · split
    · omega
    · split <;> omega
/-! duration -/
section VD
variable {u : ms_St} {D : Nat → Nat} {l : List ms_Op} {post : Int32 → ms_St → Prop} {px : String → ms_St → Prop} {h c : Nat} {a a2 : Int32}
/-- houses.visitTime -/
theorem c_visitTime (hV : sp_V D l) (hR : sp_R (sp_T u 2) D l) (hh : h < D 2) (hc : 1 ≤ c ∧ c ≤ 2) (hp : post (nI (sp_vis D l h (D (56 + 7 * h + 6)) c)) u) : wp_X0_visitTime ms_E0 u 8 (nI h) (nI c) post := by
  have c2 := hV.1.2.2.1
  have v := hV.2.2.1 h hh
  have e0 : ms_I u 8 0 = nI (D 2) := hR.1.2.2.2.2.1
  have r := hR.2.2.1 h hh
  have r7 : ms_I u 15 h = nI (D (56 + 7 * h + 6)) := r.2.2.2.2.2.2.1
  unfold wp_X0_visitTime wp_X0_visitTime_42
  rw [q_X0_has, e0, if_pos (good01 (by omega) hh)]
  refine ⟨fun q => absurd q (by decide), fun _ => ⟨fun q => absurd q (nI_nlt (b := 1) hc.1 (by omega)), fun _ => ⟨fun _ => ⟨vp_in_nI (by omega) (by omega), ?_⟩, fun q => absurd (nI_le (b := 2) hc.2 (by decide)) q⟩⟩⟩
  rw [at_8_7, at_8_8, nI_clamp (by omega), r7, show (4 : Int32) = nI 4 from rfl, show (0 : Int32) = nI 0 from rfl, show (2 : Int32) = nI 2 from rfl, show (1 : Int32) = nI 1 from rfl, pk_mul, nI_add, nI_add, nI_add, nI_add, pk_sub (by omega), pk_sub (by omega), nI_clamp (by omega), nI_clamp (by omega)]
  refine pk_eq (D (56 + 7 * h + 6)) 0 (fun q => ⟨vp_in_nI (by omega) (by omega), ?_⟩) (fun q => ⟨vp_in_nI (by omega) (by omega), ?_⟩)
  · have r8 : ms_I u 16 (h * 4 + 2 * 0 + (c - 1)) = nI (sp_vis D l h 0 (c - 1 + 1)) := r.2.2.2.2.2.2.2 0 (c - 1) (by omega) (by omega)
    rw [show h * 4 + 0 + c - 1 = h * 4 + 2 * 0 + (c - 1) by omega, r8, show c - 1 + 1 = c by omega]
    rw [q] at hp
    exact hp
  · have q1 : D (56 + 7 * h + 6) = 1 := by omega
    have r8 : ms_I u 16 (h * 4 + 2 * 1 + (c - 1)) = nI (sp_vis D l h 1 (c - 1 + 1)) := r.2.2.2.2.2.2.2 1 (c - 1) (by omega) (by omega)
    rw [show h * 4 + 2 + c - 1 = h * 4 + 2 * 1 + (c - 1) by omega, r8, show c - 1 + 1 = c by omega]
    rw [q1] at hp
    exact hp
theorem c_duration (hV : sp_V D l) (hR : sp_R (sp_T u 2) D l) (hh : h < D 2) (hc : 1 ≤ c ∧ c ≤ 2) (hp : post (nI (sp_vis D l h (D (56 + 7 * h + 6)) c)) u) : wp_X10_duration ms_E0 u 0 (nI h) (nI c) post px := by
  have c2 := hV.1.2.2.1
  have hv := c_visitTime (post := fun r34 u34 => post r34 u34) hV hR hh hc hp
  unfold wp_X10_duration wp_X10_duration_25
  rw [at_0_3, at_2_4]
  refine ckH_ok hR.1.2.2.2.2.1 (by omega) hh ⟨fun _ => hv, fun q => ⟨fun _ => hv, fun q2 => ?_⟩⟩
  rcases (show c = 1 ∨ c = 2 by omega) with rfl | rfl
  · exact absurd rfl q
  · exact absurd rfl q2
theorem c_duration_no (hV : sp_V D l) (hR : sp_R (sp_T u 2) D l) (hb : a < 0 ∨ nI (D 2) ≤ a) (hp : px "java/lang/IndexOutOfBoundsException" u) : wp_X10_duration ms_E0 u 0 a a2 post px := by
  have c2 := hV.1.2.2.1
  unfold wp_X10_duration
  exact ckH_no hR.1.2.2.2.2.1 (by omega) hb hp
theorem c_duration_no2 (hV : sp_V D l) (hR : sp_R (sp_T u 2) D l) (hh : h < D 2) (h1 : ¬ a = 1) (h2 : ¬ a = 2) (hp : px "java/lang/IllegalArgumentException" u) : wp_X10_duration ms_E0 u 0 (nI h) a post px := by
  have c2 := hV.1.2.2.1
  unfold wp_X10_duration
  exact ckH_ok hR.1.2.2.2.2.1 (by omega) hh ⟨fun q => absurd q h1, fun _ => ⟨fun q => absurd q h2, fun _ => hp⟩⟩
theorem m_duration (hV : sp_V D l) (hM : sp_M u 235 D) (hh : h < D 2) (hc : 1 ≤ c ∧ c ≤ 2) (hp : ∀ u', sp_KM u u' → ms_I u' 233 0 = 0 → post (nI (sp_vis D l h (D (56 + 7 * h + 6)) c)) u') : wp_X11_duration ms_E0 u 233 (nI h) (nI c) post := by
  unfold wp_X11_duration wp_X11_duration_28 wp_X11_duration_45
  refine noH_ok (D := D) (M_t hM (by decide)) hV.1.2.2.1 hh rfl ⟨fun _ => ?_, fun q => absurd rfl q⟩
  rw [q_X11_in, if_pos ⟨nI_le (a := 1) hc.1 (by omega), nI_le (b := 2) hc.2 (by decide)⟩]
  refine ⟨fun q => absurd q (by decide), fun _ => fails_ok rfl ⟨fun _ => m_visit hV (M_t hM (by decide)) hh hc.2 (fun u' hI hJ => hp u' ?_ ?_), fun q => absurd rfl q⟩⟩
  · exact sp_KM_tr KM_0 ⟨fun a b _ => by rw [hI], fun b => by rw [hJ 529 (by decide)]⟩
  · rw [hI]; rfl
theorem m_duration_no (hV : sp_V D l) (hM : sp_M u 235 D) (hb : a < 0 ∨ nI (D 2) ≤ a) (hp : post 0 (ms_sI (ms_sI u 233 0 0) 233 0 1)) : wp_X11_duration ms_E0 u 233 a a2 post := by
  unfold wp_X11_duration
  exact noH_no (D := D) (M_t hM (by decide)) hV.1.2.2.1 hb rfl ⟨fun q => absurd q (by decide), fun _ => hp⟩
theorem in12 {a : Int32} : (1 ≤ a ∧ a ≤ 2) ↔ a = 1 ∨ a = 2 := by
  rw [Int32.le_iff_toInt_le, Int32.le_iff_toInt_le, ← Int32.toInt_inj, ← Int32.toInt_inj, show (1 : Int32).toInt = 1 from rfl, show (2 : Int32).toInt = 2 from rfl]
  omega
theorem m_duration_no2 (hV : sp_V D l) (hM : sp_M u 235 D) (hh : h < D 2) (h1 : ¬ a = 1) (h2 : ¬ a = 2) (hp : post 0 (ms_sI (ms_sI u 233 0 0) 233 0 2)) : wp_X11_duration ms_E0 u 233 (nI h) a post := by
  unfold wp_X11_duration wp_X11_duration_28 wp_X11_duration_35 wp_X11_duration_45
  refine noH_ok (D := D) (M_t hM (by decide)) hV.1.2.2.1 hh rfl ⟨fun _ => ?_, fun q => absurd rfl q⟩
  rw [q_X11_in, if_neg (by rw [in12]; exact fun q => q.elim h1 h2)]
  exact ⟨fun _ => fails_no rfl (by decide) (by decide) ⟨fun q => absurd q (by decide), fun _ => hp⟩, fun q => absurd rfl q⟩
end VD
theorem p_case_13 {Ln i : Nat} {xs : Nat → Int32} {k : ms_St → Prop} {u : ms_St} (h : sp_Inv u) (hL : Ln ≤ 3072) (hi : i + 6 ≤ Ln) (hk : ∀ u', sp_Inv u' → k u') : wp_case_13 ms_E0 Ln xs 0 233 529 (nI i) k u := by
  obtain ⟨D, l, h0, hc⟩ := h
  have hV := h0.1
  have hM := h0.2.1
  have hR := h0.2.2.1
  have b2 := hV.1.2.2.1
  have hi1 : vp_in (nI i + 1) Ln := la_in hL hi (j := 1) (by omega)
  have hi2 : vp_in (nI i + 2) Ln := la_in hL hi (j := 2) (by omega)
  have hke : ∀ {v}, sp_KM u v → k v := fun q => hk _ (sp_Inv_q h0 sp_KC_refl hc q)
  unfold wp_case_13 wp_L_duration
  refine ⟨hi1, hi2, ?_⟩
  generalize xs (Int32.toNatClampNeg (nI i + 1)) = a
  generalize xs (Int32.toNatClampNeg (nI i + 2)) = b
  rcases ix2 a (n := D 2) (by omega) with hb | ⟨h, hh, rfl⟩
  · exact c_duration_no hV hR hb (Or.inl ⟨rfl, hi1, hi2, m_duration_no hV hM hb (en_no rfl (by decide) (hke KM_00))⟩)
  · by_cases h12 : b = 1 ∨ b = 2
    · obtain ⟨c, hc9, rfl⟩ : ∃ c, (1 ≤ c ∧ c ≤ 2) ∧ b = nI c := by
        rcases h12 with rfl | rfl
        · exact ⟨1, by omega, rfl⟩
        · exact ⟨2, by omega, rfl⟩
      refine c_duration hV hR hh hc9 ⟨in529, hi1, hi2, m_duration hV hM hh hc9 (fun u2 h2 z => en_ok z ?_ (hk _ (sp_Inv_q h0 (sp_KC_sJ sp_KC_refl) hc h2)))⟩
      rw [h2.2 0]; rfl
    · have h1 : ¬ b = 1 := fun q => h12 (Or.inl q)
      have h2 : ¬ b = 2 := fun q => h12 (Or.inr q)
      exact c_duration_no2 hV hR hh h1 h2 (Or.inr ⟨rfl, hi1, hi2, m_duration_no2 hV hM hh h1 h2 (en_no rfl (by decide) (hke KM_00))⟩)
