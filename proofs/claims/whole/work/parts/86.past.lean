/-! ===== the past ===== -/
def pu_n (n : Nat) : Nat := if n = 8 then 8 else n + 1
def pu_P {α : Type} (n : Nat) (P : Nat → α) (d : α) : Nat → α := fun j => if n = 8 then (if j = 7 then d else P (j + 1)) else (if j = n then d else P j)
def sp_PC (u : ms_St) (n q : Nat) (P : Nat → Nat → Nat) (Q : Nat → List ms_Op) : Prop := n ≤ 8 ∧ q < 8 ∧ ms_I u 0 5 = nI q ∧ ms_I u 0 6 = nI n ∧ ∀ j, j < n → sp_R (sp_T u (73 + 20 * ((q + j) % 8))) (P j) (Q j)
def sp_PM (u : ms_St) (n : Nat) (P : Nat → Nat → Nat) : Prop := ms_I u 233 11 = nI n ∧ ∀ j, j < n → sp_M u (238 + j) (P j)
def bc_F (u u' : ms_St) : Prop := (∀ a b, ¬ (73 ≤ a ∧ a ≤ 232) → ¬ (a = 0 ∧ (b = 5 ∨ b = 6 ∨ b = 11 ∨ b = 12)) → ms_I u' a b = ms_I u a b) ∧ ms_J u' = ms_J u ∧ ms_I u' 0 11 = 0 ∧ ms_I u' 0 12 = 0
def rm_F (u u' : ms_St) : Prop := (∀ a b, ¬ (238 ≤ a ∧ a ≤ 245) → ¬ (a = 233 ∧ b = 11) → ms_I u' a b = ms_I u a b) ∧ ms_J u' = ms_J u
theorem pu_V {n : Nat} {P : Nat → Nat → Nat} {Q : Nat → List ms_Op} {D : Nat → Nat} {l : List ms_Op} (hn : n ≤ 8) (h : ∀ j, j < n → sp_V (P j) (Q j)) (hV : sp_V D l) : ∀ j, j < pu_n n → sp_V (pu_P n P D j) (pu_P n Q l j) := by
  intro j hj
  unfold pu_n at hj
  unfold pu_P
  by_cases q : n = 8
  · rw [if_pos q] at hj ⊢
    rw [if_pos q]
    by_cases q2 : j = 7
    · rw [if_pos q2, if_pos q2]; exact hV
    · rw [if_neg q2, if_neg q2]; exact h _ (by omega)
  · rw [if_neg q] at hj ⊢
    rw [if_neg q]
    by_cases q2 : j = n
    · rw [if_pos q2, if_pos q2]; exact hV
    · rw [if_neg q2, if_neg q2]; exact h _ (by omega)
section PH
variable {u v : ms_St} {D : Nat → Nat} {l : List ms_Op} {n q : Nat} {P : Nat → Nat → Nat} {Q : Nat → List ms_Op} {pv : ms_St → Prop}
theorem rem8 {a b : Nat} (ha : a ≤ 8) (hb : b ≤ 8) : (nI a + nI b) - (nI a + nI b) / 8 * 8 = nI ((a + b) % 8) := by
  rw [nI_add, show (8 : Int32) = nI 8 from rfl, pk_rem (by omega) (by omega) (by omega)]
theorem bc_tail (hV : sp_V D l) (hT : sp_R (sp_T v 2) D l) (hn : n < 8) (hq : q < 8) (e5 : ms_I v 0 5 = nI q) (e6 : ms_I v 0 6 = nI n) (hP : ∀ j, j < n → sp_R (sp_T v (73 + 20 * ((q + j) % 8))) (P j) (Q j)) (hp : ∀ u', bc_F v u' → ms_I u' 0 5 = nI q → ms_I u' 0 6 = nI (n + 1) → (∀ j, j < n + 1 → sp_R (sp_T u' (73 + 20 * ((q + j) % 8))) (if j = n then D else P j) (if j = n then l else Q j)) → pv u') : wp_X10_beginChange_32 ms_E0 0 pv v := by
  unfold wp_X10_beginChange_32 wp_X10_forgetAnswers
  rw [at_0_4, at_0_3, e5, e6, rem8 (by omega) (by omega), nI_clamp (by omega), at22 _ (Nat.mod_lt _ (by omega))]
  refine ⟨vp_in_nI (Nat.mod_lt _ (by omega)) (by omega), c_copyFrom (tn_p _ (Nat.mod_lt _ (by omega))) tn_2 (Or.inr (by omega)) (fun u1 k1 j1 cp => ?_)⟩
  have f6 : ms_I u1 0 6 + 1 = nI (n + 1) := by rw [k1 0 6 (by omega), e6, nI_1]
  dsimp only
  rw [f6]
  refine hp _ ⟨fun a b h1 h2 => ?_, j1, by rw [I_sI, if_neg (by omega), I_sI, if_pos ⟨rfl, rfl⟩], by rw [I_sI, if_pos ⟨rfl, rfl⟩]⟩ ?_ ?_ (fun j hj => ?_)
  · rw [I_sI, if_neg (by omega), I_sI, if_neg (by omega), I_sI, if_neg (by omega), k1 a b (by omega)]
  · rw [I_sI, if_neg (by omega), I_sI, if_neg (by omega), I_sI, if_neg (by omega), k1 0 5 (by omega), e5]
  · rw [I_sI, if_neg (by omega), I_sI, if_neg (by omega), I_sI, if_pos ⟨rfl, rfl⟩]
  · have kk : ∀ a b, a ≠ 0 → ms_I (ms_sI (ms_sI (ms_sI u1 0 6 (nI (n + 1))) 0 11 0) 0 12 0) a b = ms_I u1 a b := fun a b h => by
      rw [I_sI, if_neg (by omega), I_sI, if_neg (by omega), I_sI, if_neg (by omega)]
    by_cases c : j = n
    · subst c
      rw [if_pos rfl, if_pos rfl]
      exact sp_R_eq (fun i b hi => kk _ b (by omega)) (sp_R_cp hV hT cp)
    · rw [if_neg c, if_neg c]
      refine sp_R_eq (fun i b hi => ?_) (hP j (by omega))
      show ms_I _ (73 + 20 * ((q + j) % 8) + i) b = ms_I v (73 + 20 * ((q + j) % 8) + i) b
      rw [kk _ b (by omega), k1 _ b (by omega)]
theorem c_beginChange (hV : sp_V D l) (hT : sp_R (sp_T u 2) D l) (hP : sp_PC u n q P Q) (hp : ∀ u' q', bc_F u u' → sp_PC u' (pu_n n) q' (pu_P n P D) (pu_P n Q l) → pv u') : wp_X10_beginChange ms_E0 u 0 pv := by
  obtain ⟨hn, hq, e5, e6, hP⟩ := hP
  unfold wp_X10_beginChange
  rw [e6]
  refine pk_eq n 8 (fun c w29 e29 => ?_) (fun c => ?_)
  · have r : (ms_I u 0 5 + 1) - (ms_I u 0 5 + 1) / 8 * 8 = nI ((q + 1) % 8) := by rw [e5]; exact rem8 (b := 1) (by omega) (by omega)
    have r6 : ms_I (ms_sI u 0 5 (nI ((q + 1) % 8))) 0 6 - 1 = nI 7 := by rw [I_sI, if_neg (by omega), e6, c]; rfl
    rw [r, r6] at e29
    subst c
    have g5 : ms_I w29 0 5 = nI ((q + 1) % 8) := by rw [e29, I_sI, if_neg (by omega), I_sI, if_pos ⟨rfl, rfl⟩]
    have g6 : ms_I w29 0 6 = nI 7 := by rw [e29, I_sI, if_pos ⟨rfl, rfl⟩]
    have g : ∀ a b, a ≠ 0 ∨ (b ≠ 5 ∧ b ≠ 6) → ms_I w29 a b = ms_I u a b := fun a b h => by rw [e29, I_sI, if_neg (by omega), I_sI, if_neg (by omega)]
    have gJ : ms_J w29 = ms_J u := by rw [e29]; rfl
    refine bc_tail (n := 7) (q := (q + 1) % 8) (P := fun j => P (j + 1)) (Q := fun j => Q (j + 1)) hV (sp_R_eq (fun i b hi => g _ b (by omega)) hT) (by omega) (Nat.mod_lt _ (by omega)) g5 g6 (fun j hj => ?_) (fun u' hF f5 f6 hR => hp u' ((q + 1) % 8) ⟨fun a b h1 h2 => ?_, hF.2.1.trans gJ, hF.2.2⟩ ⟨Nat.le_refl _, Nat.mod_lt _ (by omega), f5, f6, fun j hj => ?_⟩)
    · have := hP (j + 1) (by omega)
      rw [show (q + (j + 1)) % 8 = ((q + 1) % 8 + j) % 8 by omega] at this
      exact sp_R_eq (fun i b hi => g _ b (by omega)) this
    · rw [hF.1 a b h1 h2, g a b (by omega)]
    · have := hR j hj
      unfold pu_P
      rw [if_pos rfl]
      exact this
  · refine bc_tail hV hT (by omega) hq e5 e6 hP (fun u' hF f5 f6 hR => hp u' q hF ⟨?_, hq, f5, ?_, fun j hj => ?_⟩)
    · unfold pu_n; rw [if_neg c]; omega
    · unfold pu_n; rw [if_neg c]; exact f6
    · unfold pu_n at hj
      rw [if_neg c] at hj
      have := hR j hj
      unfold pu_P
      rw [if_neg c, if_neg c]
      exact this
/-! the reference's past -/
theorem rm_tail (hM : sp_M v 235 D) (hn : n < 8) (e : ms_I v 233 11 = nI n) (hP : ∀ j, j < n → sp_M v (238 + j) (P j)) (hp : ∀ u', rm_F v u' → ms_I u' 233 11 = nI (n + 1) → (∀ j, j < n + 1 → sp_M u' (238 + j) (if j = n then D else P j)) → pv u') : wp_X11_remember_50 ms_E0 233 pv v := by
  unfold wp_X11_remember_50
  rw [at_233_8, at_233_10, e, nI_clamp (by omega), at237 n hn]
  refine ⟨vp_in_nI hn (by omega), m_copy n235 (n238 n hn) (by omega) (fun u1 k1 j1 c1 => ?_)⟩
  rw [k1 233 11 (by omega), e, nI_1]
  refine hp _ ⟨fun a b h1 h2 => ?_, j1⟩ (by rw [I_sI, if_pos ⟨rfl, rfl⟩]) (fun j hj => ?_)
  · rw [I_sI, if_neg (by omega), k1 a b (by omega)]
  · by_cases c : j = n
    · subst c
      rw [if_pos rfl]
      intro k hk
      rw [I_sI, if_neg (by omega), c1 k hk]
      exact hM k hk
    · rw [if_neg c]
      intro k hk
      rw [I_sI, if_neg (by omega), k1 _ k (by omega)]
      exact hP j (by omega) k hk
theorem m_remember (hM : sp_M u 235 D) (hn : n ≤ 8) (hP : sp_PM u n P) (hp : ∀ u', rm_F u u' → sp_PM u' (pu_n n) (pu_P n P D) → pv u') : wp_X11_remember ms_E0 u 233 pv := by
  obtain ⟨e, hP⟩ := hP
  unfold wp_X11_remember
  rw [e]
  refine pk_eq n 8 (fun c => ⟨8, ?_⟩) (fun c => ?_)
  · subst c
    have st : ∀ m j w, j + m = 8 → 1 ≤ j → rm_F u w → ms_I w 233 11 = nI 8 → (∀ i, i < 8 → sp_M w (238 + i) (if i + 1 < j then P (i + 1) else P i)) → wp_X11_remember_11 ms_E0 233 pv (m + 1) w (nI j) := by
      intro m
      induction m with
      | zero =>
        intro j w hj h1 hF f hR
        have e : j = 8 := by omega
        subst e
        unfold wp_X11_remember_11
        rw [f, show (nI 8 - 1 : Int32) = nI 7 from rfl]
        refine ⟨fun _ => rm_tail (n := 7) (P := fun i => P (i + 1)) (D := D) (fun k hk => ?_) (by omega) (by rw [I_sI, if_pos ⟨rfl, rfl⟩]) (fun i hi k hk => ?_) (fun u' hF' f' hR' => hp u' ⟨fun a b q1 q2 => ?_, ?_⟩ ⟨f', fun j hj => ?_⟩), fun q => absurd (nI_le (a := 8) (b := 8) (by omega) (by omega)) q⟩
        · rw [I_sI, if_neg (by omega), hF.1 235 k (by omega) (by omega)]; exact hM k hk
        · rw [I_sI, if_neg (by omega)]
          have := hR i (by omega) k hk
          rw [if_pos (by omega)] at this
          exact this
        · rw [hF'.1 a b q1 q2, I_sI, if_neg (by omega), hF.1 a b q1 q2]
        · rw [hF'.2]; exact hF.2
        · have := hR' j hj
          unfold pu_P
          rw [if_pos rfl]
          exact this
      | succ m ih =>
        intro j w hj h1 hF f hR
        obtain ⟨i, rfl⟩ : ∃ i, j = i + 1 := ⟨j - 1, by omega⟩
        unfold wp_X11_remember_11
        rw [at_233_10, nI_pred, nI_1, nI_clamp (show i + 1 < 2 ^ 31 by omega), nI_clamp (show i < 2 ^ 31 by omega), at237 _ (show i + 1 < 8 by omega), at237 i (by omega)]
        refine ⟨fun q => absurd q (nI_ge (a := i + 1) (b := 8) (by omega) (by omega)), fun _ => ⟨vp_in_nI (by omega) (by omega), vp_in_nI (by omega) (by omega), m_copy (n238 _ (by omega)) (n238 i (by omega)) (by omega) (fun u1 k1 j1 c1 => ih (i + 1 + 1) u1 (by omega) (by omega) ⟨fun a b q1 q2 => ?_, ?_⟩ ?_ (fun x hx => ?_))⟩⟩
        · rw [k1 a b (by omega), hF.1 a b q1 q2]
        · rw [j1]; exact hF.2
        · rw [k1 233 11 (by omega), f]
        · intro k hk
          by_cases c : x = i
          · subst c
            rw [c1 k hk, if_pos (by omega)]
            have := hR (x + 1) (by omega) k hk
            rw [if_neg (by omega)] at this
            exact this
          · rw [k1 _ k (by omega)]
            have := hR x hx k hk
            by_cases c2 : x + 1 < i + 1
            · rw [if_pos c2] at this
              rw [if_pos (by omega)]; exact this
            · rw [if_neg c2] at this
              rw [if_neg (by omega)]; exact this
    exact st 7 1 u (by omega) (by omega) ⟨fun _ _ _ _ => rfl, rfl⟩ e (fun i hi => by rw [if_neg (by omega)]; exact hP i hi)
  · refine rm_tail hM (by omega) e hP (fun u' hF f hR => hp u' hF ⟨?_, fun j hj => ?_⟩)
    · unfold pu_n; rw [if_neg c]; exact f
    · unfold pu_n at hj
      rw [if_neg c] at hj
      have := hR j hj
      unfold pu_P
      rw [if_neg c]
      exact this
end PH
/-! ===== a change ===== -/
def ch_C (u u1 : ms_St) : Prop := ∀ a b, (a = 0 ∧ (b = 1 ∨ b = 2)) ∨ a = 1 ∨ 233 ≤ a → ms_I u1 a b = ms_I u a b
def ch_M (u1 u2 : ms_St) : Prop := (∀ a b, a ≤ 232 ∨ (a = 233 ∧ (b = 2 ∨ b = 7)) ∨ a = 234 → ms_I u2 a b = ms_I u1 a b) ∧ ∀ b, ms_J u2 529 b = ms_J u1 529 b
theorem sp_Pa_split {u : ms_St} {n q : Nat} {P : Nat → Nat → Nat} {Q : Nat → List ms_Op} (h : sp_Pa u n q P Q) : sp_PC u n q P Q ∧ sp_PM u n P ∧ ∀ j, j < n → sp_V (P j) (Q j) := by
  obtain ⟨a, b, c, d, e, f⟩ := h
  exact ⟨⟨a, b, c, d, fun j hj => (f j hj).2.2⟩, ⟨e, fun j hj => (f j hj).2.1⟩, fun j hj => (f j hj).1⟩
theorem sp_Inv_ch {u u1 u2 : ms_St} {D D' : Nat → Nat} {l l' : List ms_Op} {n q : Nat} {P : Nat → Nat → Nat} {Q : Nat → List ms_Op} (h0 : sp_I0 u D l) (hC : ch_C u u1) (hM : ch_M u1 u2) (hV' : sp_V D' l') (hT : sp_R (sp_T u1 2) D' l') (hM' : sp_M u2 235 D') (hPC : sp_PC u1 n q P Q) (hPM : sp_PM u2 n P) (hPV : ∀ j, j < n → sp_V (P j) (Q j)) (hCa : sp_Ca u1 D' l') : sp_Inv u2 := by
  obtain ⟨_, _, _, _, ⟨bl, hbl, b1, b2, hB⟩, he⟩ := h0
  refine ⟨D', l', ⟨hV', hM', sp_R_eq (fun i b hi => hM.1 _ b (by omega)) hT, ⟨n, q, P, Q, hPC.1, hPC.2.1, ?_, ?_, hPM.1, fun j hj => ⟨hPV j hj, hPM.2 j hj, sp_R_eq (fun i b hi => hM.1 _ b (by omega)) (hPC.2.2.2.2 j hj)⟩⟩, ⟨bl, hbl, ?_, ?_, fun k hk => ?_⟩, ?_⟩, sp_Ca_eq hCa (fun a b q => hM.1 a b ?_)⟩
  · rw [hM.1 0 5 (by omega)]; exact hPC.2.2.1
  · rw [hM.1 0 6 (by omega)]; exact hPC.2.2.2.1
  · rw [hM.1 0 1 (by omega), hC 0 1 (by omega)]; exact b1
  · rw [hM.1 233 2 (by omega), hC 233 2 (by omega)]; exact b2
  · obtain ⟨c, hc, e1, e2⟩ := hB k hk
    exact ⟨c, hc, by rw [hM.1 234 k (by omega), hC 234 k (by omega)]; exact e1, by rw [hM.1 1 k (by omega), hC 1 k (by omega)]; exact e2⟩
  · rw [hM.1 0 2 (by omega), hC 0 2 (by omega), hM.1 233 7 (by omega), hC 233 7 (by omega)]; exact he
  · unfold sp_Kc at q
    omega
theorem Ca_none {u : ms_St} {D : Nat → Nat} {l : List ms_Op} (h1 : ms_I u 0 11 = 0) (h2 : ms_I u 0 12 = 0) : sp_Ca u D l := ⟨fun q => absurd h1 q, fun q => absurd h2 q⟩
theorem bc_ch {u u' : ms_St} (h : bc_F u u') : ch_C u u' := fun a b q => h.1 a b (by omega) (by omega)
theorem ch_C_w {u u1 : ms_St} (h : ch_C u u1) {a b : Nat} {v : Int32} (ha : 2 ≤ a ∧ a ≤ 232) : ch_C u (ms_sI u1 a b v) := fun c d q => by rw [I_sI, if_neg (by omega)]; exact h c d q
theorem ch_M_w {u u1 : ms_St} (h : ch_M u u1) {a b : Nat} {v : Int32} (ha : 235 ≤ a ∨ (a = 233 ∧ b ≠ 2 ∧ b ≠ 7)) : ch_M u (ms_sI u1 a b v) := ⟨fun c d q => by rw [I_sI, if_neg (by omega)]; exact h.1 c d q, h.2⟩
theorem ch_M_r {u : ms_St} : ch_M u u := ⟨fun _ _ _ => rfl, fun _ => rfl⟩
theorem ch_M_t {u v w : ms_St} (h : ch_M u v) (h2 : ch_M v w) : ch_M u w := ⟨fun a b q => (h2.1 a b q).trans (h.1 a b q), fun b => (h2.2 b).trans (h.2 b)⟩
theorem rm_ch {u u' : ms_St} (h : rm_F u u') : ch_M u u' := ⟨fun a b q => h.1 a b (by omega) (by omega), fun b => by rw [h.2]⟩
theorem PC_eq {u u' : ms_St} {n q : Nat} {P : Nat → Nat → Nat} {Q : Nat → List ms_Op} (h : sp_PC u n q P Q) (h1 : ∀ a b, (a = 0 ∧ (b = 5 ∨ b = 6)) ∨ (73 ≤ a ∧ a ≤ 232) → ms_I u' a b = ms_I u a b) : sp_PC u' n q P Q := by
  obtain ⟨a, b, c, d, e⟩ := h
  exact ⟨a, b, by rw [h1 0 5 (by omega)]; exact c, by rw [h1 0 6 (by omega)]; exact d, fun j hj => sp_R_eq (fun i b hi => h1 _ b (by omega)) (e j hj)⟩
theorem PM_eq {u u' : ms_St} {n : Nat} {P : Nat → Nat → Nat} (hn : n ≤ 8) (h : sp_PM u n P) (h1 : ∀ a b, (a = 233 ∧ b = 11) ∨ (238 ≤ a ∧ a ≤ 245) → ms_I u' a b = ms_I u a b) : sp_PM u' n P :=
  ⟨by rw [h1 233 11 (by omega)]; exact h.1, fun j hj => sp_M_eq (fun b => h1 _ b (by omega)) (h.2 j hj)⟩
theorem pu_le {n : Nat} (h : n ≤ 8) : pu_n n ≤ 8 := by unfold pu_n; split <;> omega
