/-! ===== THE PURE LAYER: words of the memory ===== -/
section PB
variable {u : ms_St} {o k a b : Nat} {v : Int32} {x : Int64} {g : Nat → Int32}
theorem I_sI : ms_I (ms_sI u o k v) a b = if a = o ∧ b = k then v else ms_I u a b := rfl
theorem I_sA : ms_I (ms_sA u o g) a b = if a = o then g b else ms_I u a b := rfl
theorem I_sJ : ms_I (ms_sJ u o k x) = ms_I u := rfl
theorem J_sI : ms_J (ms_sI u o k v) = ms_J u := rfl
theorem J_sA : ms_J (ms_sA u o g) = ms_J u := rfl
theorem J_sJ : ms_J (ms_sJ u o k x) a b = if a = o ∧ b = k then x else ms_J u a b := rfl
theorem I_sI_ne (h : a ≠ o) : ms_I (ms_sI u o k v) a = ms_I u a := by funext b; simp [I_sI, h]
theorem I_sA_ne (h : a ≠ o) : ms_I (ms_sA u o g) a = ms_I u a := by funext b; simp [I_sA, h]
theorem I_sA_eq : ms_I (ms_sA u o g) o = g := by funext b; simp [I_sA]
end PB
theorem lit_I (n : Nat) : (@OfNat.ofNat Int32 n _) = nI (@OfNat.ofNat Nat n (instOfNatNat n)) := rfl
/-- NONE -/
def NO : Int32 := -1
theorem NO_e : (-1 : Int32) = NO := rfl
theorem NO_n : -nI 1 = NO := rfl
theorem NO_lt : NO < nI 0 := by decide
theorem NO_ne {i : Nat} (h : i < 2 ^ 31) : ¬ nI i = NO := fun e => nI_pos h (by rw [e]; decide)
theorem NO_ne' {i : Nat} (h : i < 2 ^ 31) : ¬ NO = nI i := fun e => NO_ne h e.symm
theorem NO_lt' {i : Nat} (h : i < 2 ^ 31) : NO < nI i := by
  rw [Int32.lt_iff_toInt_lt, nI_toInt h]
  have : NO.toInt = -1 := by decide
  omega
theorem NO_nle {i : Nat} (h : i < 2 ^ 31) : ¬ nI i ≤ NO := by
  rw [Int32.le_iff_toInt_le, nI_toInt h]
  have : NO.toInt = -1 := by decide
  omega
theorem NO_nlt {i : Nat} (h : i < 2 ^ 31) : ¬ nI i < NO := by
  rw [Int32.lt_iff_toInt_lt, nI_toInt h]
  have : NO.toInt = -1 := by decide
  omega
theorem NO_le {i : Nat} (h : i < 2 ^ 31) : NO ≤ nI i := by
  rw [Int32.le_iff_toInt_le, nI_toInt h]
  have : NO.toInt = -1 := by decide
  omega
theorem in_nI {i n : Nat} (h : i < 2 ^ 31) : vp_in (nI i) n ↔ i < n := by
  rw [vp_in_iff, nI_toInt h]
  omega
theorem lg_cmp_0 (x y : Int64) : lg_cmp x y = 0 ↔ x = y := by
  unfold lg_cmp
  by_cases h : x > y
  · rw [if_pos h]
    refine ⟨fun e => absurd e (by decide), fun e => ?_⟩
    subst e
    exact (Int64.lt_irrefl h).elim
  · rw [if_neg h]
    by_cases e : x = y
    · simp [e]
    · rw [if_neg e]
      exact ⟨fun e => absurd e (by decide), fun q => absurd q e⟩
/-! pure methods as equations -/
section PQ
variable {E : ms_En} {u : ms_St} {o : Nat} {a a1 a2 a3 : Int32} {post : Int32 → ms_St → Prop}
theorem ite01 {c : Prop} [Decidable c] {A B : Prop} : (((if c then (1 : Int32) else 0) = 0 → A) ∧ (¬ (if c then (1 : Int32) else 0) = 0 → B)) ↔ ((c → B) ∧ (¬ c → A)) := by
  by_cases h : c <;> simp [h]
theorem q_X0_has : wp_X0_has E u o a post ↔ post (if 0 ≤ a ∧ a < ms_I u o 0 then 1 else 0) u := by
  unfold wp_X0_has wp_X0_has_16 wp_X0_has_17
  by_cases h : a < 0
  · have : ¬ 0 ≤ a := Int32.not_le.mpr h
    simp [h, this]
  · have h0 : 0 ≤ a := Int32.not_lt.mp h
    by_cases h2 : ms_I u o 0 ≤ a
    · have : ¬ a < ms_I u o 0 := Int32.not_lt.mpr h2
      simp [h, h0, h2, this]
    · have : a < ms_I u o 0 := Int32.not_le.mp h2
      simp [h, h0, h2, this]
theorem q_X5_has : wp_X5_has E u o a post ↔ post (if 0 ≤ a ∧ a < ms_I u o 0 then 1 else 0) u := by
  unfold wp_X5_has wp_X5_has_16 wp_X5_has_17
  by_cases h : a < 0
  · have : ¬ 0 ≤ a := Int32.not_le.mpr h
    simp [h, this]
  · have h0 : 0 ≤ a := Int32.not_lt.mp h
    by_cases h2 : ms_I u o 0 ≤ a
    · have : ¬ a < ms_I u o 0 := Int32.not_lt.mpr h2
      simp [h, h0, h2, this]
    · have : a < ms_I u o 0 := Int32.not_le.mp h2
      simp [h, h0, h2, this]
theorem q_X9_has : wp_X9_has E u o a post ↔ post (if 0 ≤ a ∧ a < ms_I u o 0 then 1 else 0) u := by
  unfold wp_X9_has wp_X9_has_16 wp_X9_has_17
  by_cases h : a < 0
  · have : ¬ 0 ≤ a := Int32.not_le.mpr h
    simp [h, this]
  · have h0 : 0 ≤ a := Int32.not_lt.mp h
    by_cases h2 : ms_I u o 0 ≤ a
    · have : ¬ a < ms_I u o 0 := Int32.not_lt.mpr h2
      simp [h, h0, h2, this]
    · have : a < ms_I u o 0 := Int32.not_le.mp h2
      simp [h, h0, h2, this]
theorem q_X11_in : wp_X11_in E u a a1 a2 post ↔ post (if a1 ≤ a ∧ a ≤ a2 then 1 else 0) u := by
  unfold wp_X11_in wp_X11_in_14 wp_X11_in_15
  by_cases h : a < a1
  · have : ¬ a1 ≤ a := Int32.not_le.mpr h
    simp [h, this]
  · have h0 : a1 ≤ a := Int32.not_lt.mp h
    by_cases h2 : a2 < a
    · have : ¬ a ≤ a2 := Int32.not_le.mpr h2
      simp [h, h0, h2, this]
    · have : a ≤ a2 := Int32.not_lt.mp h2
      simp [h, h0, h2, this]
theorem q_X11_min : wp_X11_min E u a a1 post ↔ post (if a1 ≤ a then a1 else a) u := by
  unfold wp_X11_min wp_X11_min_10
  by_cases h : a1 ≤ a <;> simp [h]
theorem q_X11_told : wp_X11_told E u a post ↔ post (if a < 1000000 then a else -1) u := by
  unfold wp_X11_told wp_X11_told_11
  by_cases h : a < 1000000 <;> simp [h]
theorem q_X11_fails : wp_X11_fails E u o a a1 post ↔ post (if (ms_I (if a = 0 then u else if ms_I u o 0 = 0 then ms_sI u o 0 a1 else u) o 0) = 0 then 0 else 1) (if a = 0 then u else if ms_I u o 0 = 0 then ms_sI u o 0 a1 else u) := by
  unfold wp_X11_fails wp_X11_fails_16 wp_X11_fails_28
  by_cases h : a = 0
  · simp only [h, if_true, true_implies, not_true, false_implies, and_true]
    by_cases h2 : ms_I u o 0 = 0 <;> simp [h2]
  · by_cases h2 : ms_I u o 0 = 0
    · simp only [h, h2, if_true, if_false, true_implies, not_true, not_false_iff, false_implies, and_true, true_and]
      by_cases h3 : ms_I (ms_sI u o 0 a1) o 0 = 0 <;> simp [h3]
    · simp [h, h2]
/-- a check that holds: nothing is recorded -/
theorem fails_ok (h : ms_I u o 0 = 0) (hp : post 0 u) : wp_X11_fails E u o 0 a1 post := by
  rw [q_X11_fails]; simpa [h] using hp
theorem fails_no (h : ms_I u o 0 = 0) (ha : ¬ a = 0) (ha1 : ¬ a1 = 0) (hp : post 1 (ms_sI u o 0 a1)) : wp_X11_fails E u o a a1 post := by
  rw [q_X11_fails]; simpa [h, ha, ha1, I_sI] using hp
end PQ
theorem vi (n N : Nat) (h : n < N ∧ N < 2 ^ 31 := by decide) : vp_in (nI n) N := vp_in_nI h.1 h.2
