/-! ===== the ways: what the matrix keeps ===== -/
theorem u2_at {α : Type} {f : Nat → Nat → α} {o k a b : Nat} {v : α} : ms_u2 f o k v a b = if a = o ∧ b = k then v else f a b := rfl
def wy_Z (M : Nat → Nat → Nat) : Prop := (∀ x, M x x = 0) ∧ ∀ a b, M a b ≤ 1000000
theorem wy_Z0 : wy_Z sp_W0 := ⟨fun x => by simp [sp_W0], fun a b => by unfold sp_W0; split <;> omega⟩
theorem wy_Z2 {M : Nat → Nat → Nat} (h : wy_Z M) {a b v : Nat} (hv : v ≤ M a b) : wy_Z (ms_u2 M a b v) := by
  refine ⟨fun x => ?_, fun c d => ?_⟩
  · rw [u2_at]
    split
    · rename_i q
      obtain ⟨q1, q2⟩ := q
      subst q1
      subst q2
      have := h.1 x
      omega
    · exact h.1 x
  · rw [u2_at]
    split
    · have := h.2 a b; omega
    · exact h.2 c d
theorem wy_ZB {M : Nat → Nat → Nat} (h : wy_Z M) (k a : Nat) : ∀ j, wy_Z (sp_wB M k a j)
  | 0 => h
  | j + 1 => wy_Z2 (wy_ZB h k a j) (Nat.min_le_left _ _)
theorem wy_ZA {M : Nat → Nat → Nat} (h : wy_Z M) (n k : Nat) : ∀ j, wy_Z (sp_wA n M k j)
  | 0 => h
  | j + 1 => wy_ZB (wy_ZA h n k j) k j n
theorem wy_ZK {M : Nat → Nat → Nat} (h : wy_Z M) (n : Nat) : ∀ j, wy_Z (sp_wK n M j)
  | 0 => h
  | j + 1 => wy_ZA (wy_ZK h n j) n j n
theorem wy_sym {D : Nat → Nat} : ∀ j a b, sp_wS D sp_W0 j a b = sp_wS D sp_W0 j b a
  | 0, a, b => by unfold sp_wS sp_W0; by_cases h : a = b <;> simp [h, eq_comm]
  | j + 1, a, b => by
    unfold sp_wS
    split
    · exact wy_sym j a b
    · simp only [u2_at]
      have := wy_sym (D := D) j a b
      by_cases h1 : a = D (8 + 4 * j) ∧ b = D (8 + 4 * j + 1)
      · simp [h1]
      · by_cases h2 : a = D (8 + 4 * j + 1) ∧ b = D (8 + 4 * j)
        · simp [h2]
        · rw [if_neg h2, if_neg h1, if_neg (fun q => h1 ⟨q.2, q.1⟩), if_neg (fun q => h2 ⟨q.2, q.1⟩)]
          exact this
theorem wy_ZS {D : Nat → Nat} {l : List ms_Op} (hV : sp_V D l) : ∀ j, j ≤ D 1 → wy_Z (sp_wS D sp_W0 j)
  | 0, _ => wy_Z0
  | j + 1, hj => by
    have ih := wy_ZS hV j (by omega)
    have v := hV.2.1 j (by omega)
    unfold sp_wS
    split
    · exact ih
    · refine wy_Z2 (wy_Z2 ih (Nat.min_le_left _ _)) ?_
      rw [u2_at, if_neg (by omega), wy_sym j (D (8 + 4 * j + 1))]
      exact Nat.min_le_left _ _
theorem wy_ZW {D : Nat → Nat} {l : List ms_Op} (hV : sp_V D l) : wy_Z (sp_W D) := wy_ZK (wy_ZS hV _ (Nat.le_refl _)) _ _
/-- the way to the middle stays while its row is gone through -/
theorem wy_via {M : Nat → Nat → Nat} (h : wy_Z M) (k a : Nat) : ∀ j, sp_wB M k a j a k = M a k
  | 0 => rfl
  | j + 1 => by
    have ih := wy_via h k a j
    have z := (wy_ZB h k a j).1 k
    unfold sp_wB
    rw [u2_at]
    split
    · rename_i q
      have e := q.2
      subst e
      rw [ih, z]
      omega
    · exact ih
/-- no way to the middle: nothing changes -/
theorem wy_far {M : Nat → Nat → Nat} (h : wy_Z M) {k a : Nat} (hf : 1000000 ≤ M a k) : ∀ j, sp_wB M k a j = M
  | 0 => rfl
  | j + 1 => by
    have ih := wy_far h hf j
    unfold sp_wB
    rw [ih]
    funext c d
    rw [u2_at]
    split
    · rename_i q
      have := h.2 a j
      rw [q.1, q.2]
      omega
    · rfl
theorem nI_min {x y : Nat} (hx : x < 2 ^ 31) (hy : y < 2 ^ 31) : (if nI y ≤ nI x then nI y else nI x) = nI (min x y) := by
  by_cases h : y ≤ x
  · rw [if_pos (nI_le h hx), Nat.min_eq_right h]
  · rw [if_neg (nI_ge (by omega) hy), Nat.min_eq_left (by omega)]
theorem nI_min' {x y : Nat} (hx : x < 2 ^ 31) (hy : y < 2 ^ 31) : (if nI y < nI x then nI y else nI x) = nI (min x y) := by
  by_cases h : y < x
  · rw [if_pos (nI_lt h hx), Nat.min_eq_right (by omega)]
  · rw [if_neg (nI_nlt (by omega) hy), Nat.min_eq_left (by omega)]
/-! the reference's matrix: rows 247 to 256 -/
theorem at246 : ∀ i, i < 10 → ms_at ms_E0 246 i = 247 + i := by decide +kernel
def fw_F (u0 u : ms_St) : Prop := (∀ a b, ¬ (247 ≤ a ∧ a ≤ 256) → ms_I u a b = ms_I u0 a b) ∧ ms_J u = ms_J u0
def fw_S (u0 u : ms_St) (n : Nat) (M : Nat → Nat → Nat) : Prop := fw_F u0 u ∧ ∀ a b, a < n → b < n → ms_I u (247 + a) b = nI (M a b)
section PW
variable {u0 u : ms_St} {n : Nat} {M : Nat → Nat → Nat} {D : Nat → Nat} {l : List ms_Op} {pv : ms_St → Prop}
theorem fw_F_w (h : fw_F u0 u) {a b : Nat} {v : Int32} (ha : a < 10) : fw_F u0 (ms_sI u (247 + a) b v) := by
  refine ⟨fun c d q => ?_, h.2⟩
  rw [I_sI, if_neg (by omega)]
  exact h.1 c d q
theorem fw_w (h : fw_S u0 u n M) {a b v : Nat} (hn : n ≤ 10) (ha : a < n) : fw_S u0 (ms_sI u (247 + a) b (nI v)) n (ms_u2 M a b v) := by
  refine ⟨fw_F_w h.1 (by omega), fun c d hc hd => ?_⟩
  rw [I_sI, u2_at]
  by_cases q : c = a ∧ d = b
  · rw [if_pos q, if_pos (by omega)]
  · rw [if_neg q, if_neg (by omega)]
    exact h.2 c d hc hd
theorem fw_M (h : fw_F u0 u) (hM : sp_M u0 235 D) : sp_M u 235 D := sp_M_eq (fun b => h.1 235 b (by omega)) hM
theorem m_fw176 {k161 : ms_St → Int32 → Int32 → Prop} {k168 : ms_St → Int32 → Int32 → Int32 → Prop} {k a : Nat} (hn : n ≤ 10) (hk : k < n) (ha : a < n) (hZ : wy_Z M) (hp : ∀ u', fw_S u0 u' n (sp_wB M k a n) → k168 u' (nI n) (nI k) (nI (a + 1))) : ∀ m j u, j + m = n → fw_S u0 u n (sp_wB M k a j) → wp_X11_findWays_176 ms_E0 233 pv k161 k168 (m + 1) u (nI n) (nI k) (nI a) (nI j) := by
  intro m
  induction m with
  | zero =>
    intro j u hj hS
    have : j = n := by omega
    subst this
    unfold wp_X11_findWays_176
    refine ⟨fun _ => ?_, fun q => absurd (nI_le (Nat.le_refl _) (by omega)) q⟩
    rw [nI_1]
    exact hp u hS
  | succ m ih =>
    intro j u hj hS
    unfold wp_X11_findWays_176
    have vin : ∀ i, i < n → vp_in (nI i) 10 := fun i hi => vp_in_nI (by omega) (by omega)
    have b1 := (wy_ZB hZ k a j).2 a j
    have b2 := (wy_ZB hZ k a j).2 a k
    have b3 := (wy_ZB hZ k a j).2 k j
    refine ⟨fun q => absurd q (nI_ge (by omega) (by omega)), fun _ => ⟨vin a ha, vin a ha, vin j (by omega), vin a ha, vin k hk, vin k hk, vin j (by omega), ?_⟩⟩
    rw [q_X11_min, at_233_15, nI_clamp (show a < 2 ^ 31 by omega), nI_clamp (show j < 2 ^ 31 by omega), nI_clamp (show k < 2 ^ 31 by omega), at246 a (by omega), at246 k (by omega), hS.2 a j ha (by omega), hS.2 a k ha hk, hS.2 k j hk (by omega), nI_add, nI_min (by omega) (by omega), nI_1]
    refine ⟨vin j (by omega), fun w hw => ?_⟩
    subst hw
    exact ih (j + 1) _ (by omega) (fw_w hS hn ha)
theorem m_fw168 {k161 : ms_St → Int32 → Int32 → Prop} {k : Nat} (hn : n ≤ 10) (hk : k < n) (hZ : wy_Z M) (hp : ∀ u', fw_S u0 u' n (sp_wA n M k n) → k161 u' (nI n) (nI (k + 1))) : ∀ m j u, j + m = n → fw_S u0 u n (sp_wA n M k j) → wp_X11_findWays_168 ms_E0 233 pv k161 (m + 1) u (nI n) (nI k) (nI j) := by
  intro m
  induction m with
  | zero =>
    intro j u hj hS
    have : j = n := by omega
    subst this
    unfold wp_X11_findWays_168
    refine ⟨fun _ => ?_, fun q => absurd (nI_le (Nat.le_refl _) (by omega)) q⟩
    rw [nI_1]
    exact hp u hS
  | succ m ih =>
    intro j u hj hS
    unfold wp_X11_findWays_168
    refine ⟨fun q => absurd q (nI_ge (by omega) (by omega)), fun _ => ⟨n + 1, ?_⟩⟩
    exact m_fw176 hn hk (by omega) (wy_ZA hZ n k j) (fun u' h => ih (j + 1) u' (by omega) h) n 0 u (by omega) hS
theorem m_fw161 (hn : n ≤ 10) (hZ : wy_Z M) (hp : ∀ u', fw_S u0 u' n (sp_wK n M n) → pv u') : ∀ m j u, j + m = n → fw_S u0 u n (sp_wK n M j) → wp_X11_findWays_161 ms_E0 233 pv (m + 1) u (nI n) (nI j) := by
  intro m
  induction m with
  | zero =>
    intro j u hj hS
    have : j = n := by omega
    subst this
    unfold wp_X11_findWays_161
    exact ⟨fun _ => hp u hS, fun q => absurd (nI_le (Nat.le_refl _) (by omega)) q⟩
  | succ m ih =>
    intro j u hj hS
    unfold wp_X11_findWays_161
    refine ⟨fun q => absurd q (nI_ge (by omega) (by omega)), fun _ => ⟨n + 1, ?_⟩⟩
    exact m_fw168 hn (by omega) (wy_ZK hZ n j) (fun u' h => ih (j + 1) u' (by omega) h) n 0 u (by omega) hS
theorem m_fw54 (hV : sp_V D l) (hM : sp_M u0 235 D) (hp : ∀ u', fw_S u0 u' (D 0) (sp_W D) → pv u') : ∀ m j u, j + m = D 1 → fw_S u0 u (D 0) (sp_wS D sp_W0 j) → wp_X11_findWays_54 ms_E0 233 pv (m + 1) u (nI (D 0)) (nI j) := by
  have c0 := hV.1.1
  have c1 := hV.1.2.1
  intro m
  induction m with
  | zero =>
    intro j u hj hS
    have : j = D 1 := by omega
    subst this
    unfold wp_X11_findWays_54
    have hM' := fw_M hS.1 hM
    simp only [at_233_8, show Int32.toNatClampNeg 1 = 1 from rfl, hM' 1 (by omega)]
    refine ⟨vi 1 1613, fun _ => ⟨D 0 + 1, ?_⟩, fun q => absurd (nI_le (Nat.le_refl _) (by omega)) q⟩
    exact m_fw161 c0 (wy_ZS hV _ (Nat.le_refl _)) hp _ 0 u (by omega) hS
  | succ m ih =>
    intro j u hj hS
    have hM' := fw_M hS.1 hM
    have v := hV.2.1 j (by omega)
    have e1 : Int32.toNatClampNeg 1 = 1 := rfl
    have ih9 := fun u' h => ih (j + 1) u' (by omega) h
    have z1 := (wy_ZS hV j (by omega)).2 (D (8 + 4 * j)) (D (8 + 4 * j + 1))
    unfold sp_wS at ih9
    unfold wp_X11_findWays_54 wp_X11_street wp_X11_findWays_153
    simp only [at_233_8, e1, hM' 1 (by omega)]
    refine ⟨vi 1 1613, fun q => absurd q (nI_ge (by omega) (by omega)), fun _ => ?_⟩
    simp only [ixS0, show (1 : Int32) = nI 1 from rfl, show (2 : Int32) = nI 2 from rfl, show (3 : Int32) = nI 3 from rfl, nI_add, nI_clamp (show 8 + 4 * j < 2 ^ 31 by omega), nI_clamp (show 8 + 4 * j + 1 < 2 ^ 31 by omega), nI_clamp (show 8 + 4 * j + 2 < 2 ^ 31 by omega), nI_clamp (show 8 + 4 * j + 3 < 2 ^ 31 by omega), hM' _ (show 8 + 4 * j < 1613 by omega), hM' _ (show 8 + 4 * j + 1 < 1613 by omega), hM' _ (show 8 + 4 * j + 2 < 1613 by omega), hM' _ (show 8 + 4 * j + 3 < 1613 by omega), forall_eq, at_233_15, nI_clamp (show D (8 + 4 * j) < 2 ^ 31 by omega), nI_clamp (show D (8 + 4 * j + 1) < 2 ^ 31 by omega), at246 _ (show D (8 + 4 * j) < 10 by omega), at246 _ (show D (8 + 4 * j + 1) < 10 by omega)]
    have vin : ∀ i, i < D 0 → vp_in (nI i) 10 := fun i hi => vp_in_nI (by omega) (by omega)
    have vi9 : ∀ i, i < 1613 → vp_in (nI i) 1613 := fun i hi => vp_in_nI (by omega) (by omega)
    refine ⟨vi9 _ (by omega), vi9 _ (by omega), vi9 _ (by omega), pk_eq (D (8 + 4 * j + 3)) 1 (fun q => ?_) (fun q => ⟨vin _ v.1, vin _ v.1, vin _ v.2.1, vi9 _ (by omega), ?_⟩)⟩
    · rw [if_pos q] at ih9
      exact ih9 u hS
    · rw [if_neg q] at ih9
      rw [q_X11_min, hS.2 _ _ v.1 v.2.1, nI_min (by omega) (by omega)]
      refine ⟨vin _ v.2.1, vin _ v.2.1, vin _ v.1, vin _ v.2.1, vin _ v.1, ih9 _ ?_⟩
      rw [I_sI, if_pos ⟨rfl, rfl⟩]
      exact fw_w (fw_w hS c0 v.1) c0 v.2.1
/-- the first loops: nothing is asked of what isn't written yet -/
def fw_I (u0 u : ms_St) (n a b : Nat) : Prop := fw_F u0 u ∧ ∀ c d, c < n → d < n → (c < a ∨ (c = a ∧ d < b)) → ms_I u (247 + c) d = nI (sp_W0 c d)
theorem m_fw16 {k9 : ms_St → Int32 → Int32 → Prop} {a : Nat} (hn : n ≤ 10) (ha : a < n) (hp : ∀ u', fw_I u0 u' n (a + 1) 0 → k9 u' (nI n) (nI (a + 1))) : ∀ m j u, j + m = n → fw_I u0 u n a j → wp_X11_findWays_16 ms_E0 233 pv k9 (m + 1) u (nI n) (nI a) (nI j) := by
  intro m
  induction m with
  | zero =>
    intro j u hj hS
    have : j = n := by omega
    subst this
    unfold wp_X11_findWays_16
    refine ⟨fun _ => ?_, fun q => absurd (nI_le (Nat.le_refl _) (by omega)) q⟩
    rw [nI_1]
    exact hp u ⟨hS.1, fun c d hc hd q => hS.2 c d hc hd (by omega)⟩
  | succ m ih =>
    intro j u hj hS
    have st : ∀ v : Nat, v = sp_W0 a j → wp_X11_findWays_16 ms_E0 233 pv k9 (m + 1) (ms_sI u (247 + a) j (nI v)) (nI n) (nI a) (nI (j + 1)) := by
      intro v hv
      refine ih (j + 1) _ (by omega) ⟨fw_F_w hS.1 (by omega), fun c d hc hd q => ?_⟩
      rw [I_sI]
      by_cases e : c = a ∧ d = j
      · rw [if_pos (by omega), hv, e.1, e.2]
      · rw [if_neg (by omega)]
        exact hS.2 c d hc hd (by omega)
    unfold wp_X11_findWays_16 wp_X11_findWays_39
    rw [at_233_15, nI_clamp (show a < 2 ^ 31 by omega), nI_clamp (show j < 2 ^ 31 by omega), at246 a (by omega), nI_1 j]
    refine ⟨fun q => absurd q (nI_ge (by omega) (by omega)), fun _ => ⟨vp_in_nI (by omega) (by omega), pk_eq a j (fun q => ?_) (fun q => ?_)⟩⟩
    · exact ⟨vp_in_nI (by omega) (by omega), st 0 (by unfold sp_W0; rw [if_pos q])⟩
    · exact ⟨vp_in_nI (by omega) (by omega), st 1000000 (by unfold sp_W0; rw [if_neg q])⟩
theorem m_fw9 (hV : sp_V D l) (hM : sp_M u0 235 D) (hp : ∀ u', fw_S u0 u' (D 0) (sp_W D) → pv u') : ∀ m j u, j + m = D 0 → fw_I u0 u (D 0) j 0 → wp_X11_findWays_9 ms_E0 233 pv (m + 1) u (nI (D 0)) (nI j) := by
  have c0 := hV.1.1
  intro m
  induction m with
  | zero =>
    intro j u hj hS
    have : j = D 0 := by omega
    subst this
    unfold wp_X11_findWays_9
    refine ⟨fun _ => ⟨D 1 + 1, m_fw54 hV hM hp _ 0 u (by omega) ⟨hS.1, fun a b ha hb => hS.2 a b ha hb (by omega)⟩⟩, fun q => absurd (nI_le (Nat.le_refl _) (by omega)) q⟩
  | succ m ih =>
    intro j u hj hS
    unfold wp_X11_findWays_9
    refine ⟨fun q => absurd q (nI_ge (by omega) (by omega)), fun _ => ⟨D 0 + 1, ?_⟩⟩
    exact m_fw16 c0 (by omega) (fun u' h => ih (j + 1) u' (by omega) h) (D 0) 0 u (by omega) hS
theorem m_findWays (hV : sp_V D l) (hM : sp_M u 235 D) (hp : ∀ u', fw_S u u' (D 0) (sp_W D) → pv u') : wp_X11_findWays ms_E0 u 233 pv := by
  unfold wp_X11_findWays
  simp only [at_233_8, show Int32.toNatClampNeg 0 = 0 from rfl, hM 0 (by omega), forall_eq]
  exact ⟨vi 0 1613, D 0 + 1, m_fw9 hV hM hp _ 0 u (by omega) ⟨⟨fun _ _ _ => rfl, rfl⟩, fun c d _ _ q => by omega⟩⟩
end PW
