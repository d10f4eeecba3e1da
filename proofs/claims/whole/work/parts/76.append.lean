/-! ===== append ===== -/
def ap_g (a1 a2 a3 a4 a5 : Int32) (k : Nat) : Int32 := (if k < 4 then a1 else if k < 8 then a2 else if k < 12 then a3 else if k < 16 then a4 else a5) >>> (nI (24 - 8 * (k % 4)) &&& 31)
def ap_c (u : ms_St) (b : Nat) (g : Nat → Int32) : Nat → ms_St
  | 0 => u
  | j + 1 => ms_sI (ms_sI (ap_c u b g j) 1 (b + j) (vp_nar .byte (g j).toInt8.toInt32)) 0 1 (nI (b + j + 1))
def ap_m (u : ms_St) (b : Nat) (g : Nat → Int32) : Nat → ms_St
  | 0 => u
  | j + 1 => ms_sI (ms_sI (ap_m u b g j) 234 (b + j) (g j &&& 255)) 233 2 (nI (b + j + 1))
section PP
variable {u : ms_St} {b : Nat} {g : Nat → Int32}
theorem ap_c_0 (h : ms_I u 0 1 = nI b) : ∀ j, ms_I (ap_c u b g j) 0 1 = nI (b + j)
  | 0 => h
  | j + 1 => rfl
theorem ap_c_o {a c : Nat} (h : ¬ (a = 0 ∧ c = 1)) (h2 : a = 1 → c < b) : ∀ j, ms_I (ap_c u b g j) a c = ms_I u a c
  | 0 => rfl
  | j + 1 => by
    unfold ap_c
    rw [I_sI, if_neg h, I_sI, if_neg (by omega)]
    exact ap_c_o h h2 j
theorem ap_c_1 : ∀ j i, i < j → ms_I (ap_c u b g j) 1 (b + i) = vp_nar .byte (g i).toInt8.toInt32
  | 0, i, h => by omega
  | j + 1, i, h => by
    unfold ap_c
    rw [I_sI, if_neg (by omega), I_sI]
    by_cases e : i = j
    · subst e; rw [if_pos ⟨rfl, rfl⟩]
    · rw [if_neg (by omega)]; exact ap_c_1 j i (by omega)
theorem ap_c_J : ∀ j, ms_J (ap_c u b g j) = ms_J u
  | 0 => rfl
  | j + 1 => by unfold ap_c; rw [J_sI, J_sI]; exact ap_c_J j
theorem ap_m_0 (h : ms_I u 233 2 = nI b) : ∀ j, ms_I (ap_m u b g j) 233 2 = nI (b + j)
  | 0 => h
  | j + 1 => rfl
theorem ap_m_o {a c : Nat} (h : ¬ (a = 233 ∧ c = 2)) (h2 : a = 234 → c < b) : ∀ j, ms_I (ap_m u b g j) a c = ms_I u a c
  | 0 => rfl
  | j + 1 => by
    unfold ap_m
    rw [I_sI, if_neg h, I_sI, if_neg (by omega)]
    exact ap_m_o h h2 j
theorem ap_m_1 : ∀ j i, i < j → ms_I (ap_m u b g j) 234 (b + i) = g i &&& 255
  | 0, i, h => by omega
  | j + 1, i, h => by
    unfold ap_m
    rw [I_sI, if_neg (by omega), I_sI]
    by_cases e : i = j
    · subst e; rw [if_pos ⟨rfl, rfl⟩]
    · rw [if_neg (by omega)]; exact ap_m_1 j i (by omega)
theorem ap_m_J : ∀ j, ms_J (ap_m u b g j) = ms_J u
  | 0 => rfl
  | j + 1 => by unfold ap_m; rw [J_sI, J_sI]; exact ap_m_J j
theorem ap_byte (x : Int32) : ∃ c, c < 256 ∧ x &&& 255 = nI c ∧ vp_nar .byte x.toInt8.toInt32 = (nI c).toInt8.toInt32 := by
  obtain ⟨c, hc, e⟩ := pk_andE x (m := 255) 8 rfl
  refine ⟨c, hc, e, ?_⟩
  rw [pk_vb, ← e, Int32.toInt8_and, show (255 : Int32).toInt8 = -1 from rfl, Int8.and_neg_one]
theorem c_word {a1 : Int32} {pv : ms_St → Prop} {j : Nat} (hb : b + 20 ≤ 900) (h : ms_I u 0 1 = nI b) (hj : j + 4 ≤ 20) (e : ∀ i, i < 4 → g (j + i) = a1 >>> (nI (24 - 8 * i) &&& 31)) (hp : pv (ap_c u b g (j + 4))) : wp_X10_appendWord ms_E0 (ap_c u b g j) 0 a1 pv := by
  unfold wp_X10_appendWord
  have st : ∀ n i, i < 4 → wp_X10_appendWord_3 ms_E0 0 a1 pv n (ap_c u b g (j + i + 1)) (nI (24 - 8 * i) + -8) → wp_X10_appendWord_3 ms_E0 0 a1 pv (n + 1) (ap_c u b g (j + i)) (nI (24 - 8 * i)) := by
    intro n i hi hw
    unfold wp_X10_appendWord_3 wp_X10_appendWord_42
    have e0 := ap_c_0 (g := g) h (j + i)
    refine ⟨fun q => absurd q (nI_pos (by omega)), fun _ => ⟨fun q => ?_, fun _ => ?_⟩⟩
    · rw [e0] at q; exact absurd q (nI_ge (by omega) (by omega))
    · rw [e0, at_0_0, nI_clamp (by omega)]
      refine ⟨vp_in_nI (by omega) (by omega), fun w hw9 => ?_⟩
      subst hw9
      have e1 : ms_I (ms_sI (ap_c u b g (j + i)) 1 (b + (j + i)) (vp_nar .byte (a1 >>> (nI (24 - 8 * i) &&& 31)).toInt8.toInt32)) 0 1 = nI (b + (j + i)) := e0
      rw [e1, nI_1, ← e i hi]
      exact hw
  refine ⟨5, ?_⟩
  refine st 4 0 (by omega) (st 3 1 (by omega) (st 2 2 (by omega) (st 1 3 (by omega) ?_)))
  unfold wp_X10_appendWord_3
  exact ⟨fun _ => hp, fun q => absurd (by decide) q⟩
theorem c_append {a1 a2 a3 a4 a5 : Int32} {post : Int32 → ms_St → Prop} (hb : b + 20 ≤ 900) (h : ms_I u 0 1 = nI b) (hp : post (nI (b + 20)) (ap_c u b (ap_g a1 a2 a3 a4 a5) 20)) : wp_X10_append ms_E0 u 0 a1 a2 a3 a4 a5 post := by
  unfold wp_X10_append
  rw [h, show (20 : Int32) = nI 20 from rfl, nI_add]
  refine ⟨fun _ => ?_, fun q => absurd (nI_le hb (by omega)) q⟩
  refine c_word (j := 0) (g := ap_g a1 a2 a3 a4 a5) hb h (by omega) ?_ (c_word (j := 4) hb h (by omega) ?_ (c_word (j := 8) hb h (by omega) ?_ (c_word (j := 12) hb h (by omega) ?_ (c_word (j := 16) hb h (by omega) ?_ ?_))))
  iterate 5
    · intro i hi
      unfold ap_g
      rcases i with _ | _ | _ | _ | i <;> first | rfl | omega
  · rw [ap_c_0 h]; exact hp
theorem c_append_no {a1 a2 a3 a4 a5 : Int32} {post : Int32 → ms_St → Prop} (hb : ¬ b + 20 ≤ 900) (hb2 : b ≤ 900) (h : ms_I u 0 1 = nI b) (hp : post (-1) u) : wp_X10_append ms_E0 u 0 a1 a2 a3 a4 a5 post := by
  unfold wp_X10_append
  rw [h, show (20 : Int32) = nI 20 from rfl, nI_add]
  exact ⟨fun q => absurd q (nI_ge (a := 900) (b := b + 20) (by omega) (by omega)), fun _ => hp⟩
theorem m_append {a1 a2 a3 a4 a5 : Int32} {post : Int32 → ms_St → Prop} (hb : b + 20 ≤ 900) (h : ms_I u 233 2 = nI b) (hp : post (nI (b + 20)) (ap_m (ms_sI u 233 0 0) b (ap_g a1 a2 a3 a4 a5) 20)) : wp_X11_append ms_E0 u 233 a1 a2 a3 a4 a5 post := by
  have h9 : ms_I (ms_sI u 233 0 0) 233 2 = nI b := h
  unfold wp_X11_append
  rw [h9, show (20 : Int32) = nI 20 from rfl, nI_add]
  refine ⟨fun _ => ?_, fun q => absurd (nI_le hb (by omega)) q⟩
  have st : ∀ m j, j + m = 20 → wp_X11_append_23 ms_E0 233 a1 a2 a3 a4 a5 post (m + 1) (ap_m (ms_sI u 233 0 0) b (ap_g a1 a2 a3 a4 a5) j) (nI j) := by
    intro m
    induction m with
    | zero =>
      intro j hj
      unfold wp_X11_append_23
      have hj' : j = 20 := by omega
      subst hj'
      refine ⟨fun _ => ?_, fun q => absurd (nI_le (show 20 ≤ 20 by omega) (by omega)) q⟩
      rw [ap_m_0 h9]
      exact hp
    | succ m ih =>
      intro j hj
      have ih := ih (j + 1) (by omega)
      have sel : ∀ z : Int32, z >>> (nI (24 - 8 * (j % 4)) &&& 31) = ap_g a1 a2 a3 a4 a5 j → wp_X11_append_76 ms_E0 233 a1 a2 a3 a4 a5 post (wp_X11_append_23 ms_E0 233 a1 a2 a3 a4 a5 post (m + 1)) (ap_m (ms_sI u 233 0 0) b (ap_g a1 a2 a3 a4 a5) j) (nI j) z := by
        intro z hz
        unfold wp_X11_append_76
        have e0 := ap_m_0 (g := ap_g a1 a2 a3 a4 a5) h9 j
        have es : (24 : Int32) - 8 * (nI j - nI j / 4 * 4) = nI (24 - 8 * (j % 4)) := by
          rw [show (4 : Int32) = nI 4 from rfl, pk_rem (by omega) (by omega) (by omega), show (8 : Int32) = nI 8 from rfl, pk_mul, show (24 : Int32) = nI 24 from rfl, pk_sub (by omega)]
        rw [e0, at_233_1, nI_clamp (by omega), es, hz]
        refine ⟨vp_in_nI (by omega) (by omega), fun w hw => ?_⟩
        subst hw
        have e1 : ms_I (ms_sI (ap_m (ms_sI u 233 0 0) b (ap_g a1 a2 a3 a4 a5) j) 234 (b + j) (ap_g a1 a2 a3 a4 a5 j &&& 255)) 233 2 = nI (b + j) := e0
        rw [e1, nI_1, nI_1]
        exact ih
      unfold wp_X11_append_23
      refine ⟨fun q => absurd q (nI_ge (a := j) (b := 20) (by omega) (by decide)), fun _ => ?_⟩
      refine pk_le 4 j (fun q4 => pk_le 8 j (fun q8 => pk_le 12 j (fun q12 => pk_le 16 j (fun q16 => sel _ ?_) (fun q16 => sel _ ?_)) (fun q12 => sel _ ?_)) (fun q8 => sel _ ?_)) (fun q4 => sel _ ?_)
      · unfold ap_g; rw [if_neg (by omega), if_neg (by omega), if_neg (by omega), if_neg (by omega)]
      · unfold ap_g; rw [if_neg (by omega), if_neg (by omega), if_neg (by omega), if_pos (by omega)]
      · unfold ap_g; rw [if_neg (by omega), if_neg (by omega), if_pos (by omega)]
      · unfold ap_g; rw [if_neg (by omega), if_pos (by omega)]
      · unfold ap_g; rw [if_pos (by omega)]
  exact ⟨21, st 20 0 (by omega)⟩
theorem m_append_no {a1 a2 a3 a4 a5 : Int32} {post : Int32 → ms_St → Prop} (hb : ¬ b + 20 ≤ 900) (hb2 : b ≤ 900) (h : ms_I u 233 2 = nI b) (hp : post (-1) (ms_sI u 233 0 0)) : wp_X11_append ms_E0 u 233 a1 a2 a3 a4 a5 post := by
  have h9 : ms_I (ms_sI u 233 0 0) 233 2 = nI b := h
  unfold wp_X11_append
  rw [h9, show (20 : Int32) = nI 20 from rfl, nI_add]
  exact ⟨fun q => absurd q (nI_ge (a := 900) (b := b + 20) (by omega) (by omega)), fun _ => hp⟩
end PP
theorem p_case_0 {Ln i : Nat} {xs : Nat → Int32} {k : ms_St → Prop} {u : ms_St} (h : sp_Inv u) (hL : Ln ≤ 3072) (hi : i + 6 ≤ Ln) (hk : ∀ u', sp_Inv u' → k u') : wp_case_0 ms_E0 Ln xs 0 233 529 (nI i) k u := by
  obtain ⟨D, l, h0, hc⟩ := h
  have hij : ∀ j, j < 6 → vp_in (nI i + nI j) Ln := fun j hj => la_in hL hi hj
  unfold wp_case_0
  refine ⟨hij 1 (by omega), hij 2 (by omega), hij 3 (by omega), hij 4 (by omega), hij 5 (by omega), ?_⟩
  generalize xs (Int32.toNatClampNeg (nI i + 1)) = a1
  generalize xs (Int32.toNatClampNeg (nI i + 2)) = a2
  generalize xs (Int32.toNatClampNeg (nI i + 3)) = a3
  generalize xs (Int32.toNatClampNeg (nI i + 4)) = a4
  generalize xs (Int32.toNatClampNeg (nI i + 5)) = a5
  obtain ⟨hV, hM, hR, ⟨n, q, P, Q, hn, hq, e5, e6, e11, hP⟩, ⟨b, hbl, b1, b2, hB⟩, he⟩ := h0
  by_cases hb : b + 20 ≤ 900
  · refine c_append hb b1 ⟨hij 1 (by omega), hij 2 (by omega), hij 3 (by omega), hij 4 (by omega), hij 5 (by omega), ?_⟩
    refine m_append hb (by rw [ap_c_o (by omega) (by omega)]; exact b2) ⟨fun _ => hk _ ?_, fun q => q rfl⟩
    generalize hg : ap_g a1 a2 a3 a4 a5 = g
    have k1 : ∀ a c, ¬ (a = 0 ∧ c = 1) → a ≠ 1 → ¬ (a = 233 ∧ (c = 0 ∨ c = 2)) → a ≠ 234 → ms_I (ap_m (ms_sI (ap_c u b g 20) 233 0 0) b g 20) a c = ms_I u a c := by
      intro a c x1 x2 x3 x4
      rw [ap_m_o (by omega) (by omega), I_sI, if_neg (by omega), ap_c_o x1 (by omega)]
    refine ⟨D, l, ⟨hV, sp_M_eq (fun c => k1 235 c (by omega) (by omega) (by omega) (by omega)) hM, sp_R_eq (fun i c hi => k1 (2 + i) c (by omega) (by omega) (by omega) (by omega)) hR, ⟨n, q, P, Q, hn, hq, ?_, ?_, ?_, fun j hj => ?_⟩, ⟨b + 20, hb, ?_, ?_, fun c hc9 => ?_⟩, ?_⟩, sp_Ca_eq hc (fun a c hx => k1 a c ?_ ?_ ?_ ?_)⟩
    · rw [k1 0 5 (by omega) (by omega) (by omega) (by omega), e5]
    · rw [k1 0 6 (by omega) (by omega) (by omega) (by omega), e6]
    · rw [k1 233 11 (by omega) (by omega) (by omega) (by omega), e11]
    · obtain ⟨v, m, r⟩ := hP j hj
      exact ⟨v, sp_M_eq (fun c => k1 _ c (by omega) (by omega) (by omega) (by omega)) m, sp_R_eq (fun i c hi => k1 _ c (by omega) (by omega) (by omega) (by omega)) r⟩
    · rw [ap_m_o (by omega) (by omega), I_sI, if_neg (by omega), ap_c_0 b1]
    · rw [ap_m_0]
      rw [I_sI, if_neg (by omega), ap_c_o (by omega) (by omega)]
      exact b2
    · by_cases hcb : c < b
      · obtain ⟨v, hv, x1, x2⟩ := hB c hcb
        refine ⟨v, hv, ?_, ?_⟩
        · rw [ap_m_o (by omega) (by omega), I_sI, if_neg (by omega), ap_c_o (by omega) (by omega), x1]
        · rw [ap_m_o (by omega) (by omega), I_sI, if_neg (by omega), ap_c_o (by omega) (by omega), x2]
      · obtain ⟨v, hv, x1, x2⟩ := ap_byte (g (c - b))
        refine ⟨v, hv, ?_, ?_⟩
        · rw [show c = b + (c - b) by omega, ap_m_1 20 _ (by omega), x1]
        · rw [ap_m_o (by omega) (by omega), I_sI, if_neg (by omega), show c = b + (c - b) by omega, ap_c_1 20 _ (by omega), x2]
    · rw [k1 0 2 (by omega) (by omega) (by omega) (by omega), k1 233 7 (by omega) (by omega) (by omega) (by omega), he]
    · unfold sp_Kc at hx; omega
    · unfold sp_Kc at hx; omega
    · unfold sp_Kc at hx; omega
    · unfold sp_Kc at hx; omega
  · refine c_append_no hb hbl b1 ⟨hij 1 (by omega), hij 2 (by omega), hij 3 (by omega), hij 4 (by omega), hij 5 (by omega), ?_⟩
    exact m_append_no hb hbl b2 ⟨fun _ => hk _ (sp_Inv_q ⟨hV, hM, hR, ⟨n, q, P, Q, hn, hq, e5, e6, e11, hP⟩, ⟨b, hbl, b1, b2, hB⟩, he⟩ sp_KC_refl hc KM_0), fun q => q rfl⟩
