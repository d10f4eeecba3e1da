/-! ===== searches: what is answered ===== -/
/-- how many, the begin, first ways, hours from and to, visits, ways -/
abbrev ms_Q : Type := Nat × Nat × (Nat → Nat) × (Nat → Nat) × (Nat → Nat) × (Nat → Nat) × (Nat → Nat → Nat)
def qM (A : ms_Q) : Nat := A.1
def qB (A : ms_Q) : Nat := A.2.1
def qF (A : ms_Q) : Nat → Nat := A.2.2.1
def qO (A : ms_Q) : Nat → Nat := A.2.2.2.1
def qC (A : ms_Q) : Nat → Nat := A.2.2.2.2.1
def qV (A : ms_Q) : Nat → Nat := A.2.2.2.2.2.1
def qW (A : ms_Q) : Nat → Nat → Nat := A.2.2.2.2.2.2
def q_ok (A : ms_Q) : Prop := qM A ≤ 8 ∧ qB A ≤ 1440 ∧ (∀ k, k < qM A → qO A k < qC A k ∧ qC A k ≤ 1440 ∧ qV A k ≤ 240 ∧ qF A k < 2 ^ 30) ∧ ∀ j k, j < qM A → k < qM A → qW A j k < 2 ^ 30
def sq_gn (A : ms_Q) (k way t : Nat) : Nat := if 1000000 ≤ way ∨ 1000000 ≤ t then 1000000 else if qC A k ≤ t + way then 1000000 else (if t + way < qO A k then qO A k else t + way) + qV A k
def sq_mn (f : Nat → Nat) (s : Nat) : Nat → Nat
  | 0 => 1000000
  | j + 1 => if s.testBit j = true then min (sq_mn f s j) (f j) else sq_mn f s j
def sq_E (A : ms_Q) : Nat → Nat → Nat → Nat
  | 0 => fun _ _ => 1000000
  | n + 1 => fun s k => if s - 2 ^ k = 0 then sq_gn A k (qF A k) (qB A) else sq_mn (fun j => sq_gn A k (qW A j k) (sq_E A n (s - 2 ^ k) j)) (s - 2 ^ k) (qM A)
def sq_e (A : ms_Q) (s k : Nat) : Nat := sq_E A (s + 1) s k
def sq_se (A : ms_Q) (s : Nat) : Nat := if s = 0 then qB A else sq_mn (sq_e A s) s (qM A)
theorem bx : ∀ s, s < 256 → ∀ k, k < 8 → s.testBit k = true → s ^^^ 2 ^ k = s - 2 ^ k ∧ s - 2 ^ k < s ∧ 2 ^ k ≤ s := by decide +kernel
theorem bj : ∀ s, s < 256 → ∀ k, k < 8 → s.testBit k = true → ∀ j, j < 8 → (s - 2 ^ k).testBit j = (s.testBit j && (j != k)) := by decide +kernel
theorem E_s {A : ms_Q} {n s k : Nat} : sq_E A (n + 1) s k = if s - 2 ^ k = 0 then sq_gn A k (qF A k) (qB A) else sq_mn (fun j => sq_gn A k (qW A j k) (sq_E A n (s - 2 ^ k) j)) (s - 2 ^ k) (qM A) := rfl
section SQ
variable {A : ms_Q} {f g : Nat → Nat} {s k j way t L : Nat}
theorem mn_s : sq_mn f s (j + 1) = if s.testBit j = true then min (sq_mn f s j) (f j) else sq_mn f s j := rfl
theorem mn_cg : ∀ j, (∀ i, i < j → s.testBit i = true → f i = g i) → sq_mn f s j = sq_mn g s j
  | 0, _ => rfl
  | j + 1, h => by
    have ih := mn_cg j (fun i hi => h i (by omega))
    rw [mn_s, mn_s]
    by_cases q : s.testBit j = true
    · rw [if_pos q, if_pos q, ih, h j (by omega) q]
    · rw [if_neg q, if_neg q, ih]
theorem mn_le : ∀ j, sq_mn f s j ≤ 1000000
  | 0 => Nat.le_refl _
  | j + 1 => by
    have ih := mn_le j
    rw [mn_s]
    split <;> omega
theorem mn_mem : ∀ j i, i < j → s.testBit i = true → sq_mn f s j ≤ f i
  | 0, _, h, _ => by omega
  | j + 1, i, h, hb => by
    rw [mn_s]
    by_cases q : i = j
    · subst q
      rw [if_pos hb]
      omega
    · have ih := mn_mem j i (by omega) hb
      split <;> omega
theorem mn_ex : ∀ j, sq_mn f s j < 1000000 → ∃ i, i < j ∧ s.testBit i = true ∧ f i = sq_mn f s j
  | 0, h => by simp [sq_mn] at h
  | j + 1, h => by
    rw [mn_s] at h ⊢
    by_cases q : s.testBit j = true
    · rw [if_pos q] at h ⊢
      by_cases c : f j < sq_mn f s j
      · exact ⟨j, by omega, q, by omega⟩
      · obtain ⟨i, h1, h2, h3⟩ := mn_ex j (by omega)
        exact ⟨i, by omega, h2, by omega⟩
    · rw [if_neg q] at h ⊢
      obtain ⟨i, h1, h2, h3⟩ := mn_ex j h
      exact ⟨i, by omega, h2, h3⟩
theorem sq_st (hM : qM A ≤ 8) : ∀ n m s k, s < n → s < m → s < 256 → k < 8 → s.testBit k = true → sq_E A n s k = sq_E A m s k
  | 0, _, s, _, h, _, _, _, _ => by omega
  | n + 1, 0, s, _, _, h, _, _, _ => by omega
  | n + 1, m + 1, s, k, h1, h2, hs, hk, hb => by
    obtain ⟨_, b2, b3⟩ := bx s hs k hk hb
    rw [E_s, E_s]
    by_cases q : s - 2 ^ k = 0
    · rw [if_pos q, if_pos q]
    · rw [if_neg q, if_neg q]
      refine mn_cg _ (fun i hi hb2 => ?_)
      rw [sq_st hM n m _ i (by omega) (by omega) (by omega) (by omega) hb2]
theorem sq_e_eq (hM : qM A ≤ 8) (hs : s < 256) (hk : k < 8) (hb : s.testBit k = true) : sq_e A s k = if s - 2 ^ k = 0 then sq_gn A k (qF A k) (qB A) else sq_mn (fun j => sq_gn A k (qW A j k) (sq_e A (s - 2 ^ k) j)) (s - 2 ^ k) (qM A) := by
  obtain ⟨_, b2, b3⟩ := bx s hs k hk hb
  show sq_E A (s + 1) s k = _
  rw [E_s]
  by_cases q : s - 2 ^ k = 0
  · rw [if_pos q, if_pos q]
  · rw [if_neg q, if_neg q]
    refine mn_cg _ (fun i hi hb2 => ?_)
    unfold sq_e
    rw [sq_st hM s (s - 2 ^ k + 1) _ i (by omega) (by omega) (by omega) (by omega) hb2]
theorem gn_v (hA : q_ok A) (hk : k < qM A) : sq_gn A k way t = 1000000 ∨ sq_gn A k way t ≤ 1680 := by
  have a := hA.2.2.1 k hk
  unfold sq_gn
  split
  · exact Or.inl rfl
  · split
    · exact Or.inl rfl
    · refine Or.inr ?_
      split <;> omega
theorem gn_mono {t' : Nat} (hA : q_ok A) (hk : k < qM A) (h : t ≤ t') : sq_gn A k way t ≤ sq_gn A k way t' := by
  have a := hA.2.2.1 k hk
  unfold sq_gn
  by_cases h1 : 1000000 ≤ way ∨ 1000000 ≤ t'
  · rw [if_pos h1]
    split
    · omega
    · split
      · omega
      · split <;> omega
  · rw [if_neg h1, if_neg (by omega)]
    by_cases h2 : qC A k ≤ t' + way
    · rw [if_pos h2]
      split
      · omega
      · split <;> omega
    · rw [if_neg h2, if_neg (by omega)]
      split <;> split <;> omega
theorem gn_ge (h : t ≤ 1000000) : t ≤ sq_gn A k way t := by
  unfold sq_gn
  split
  · exact h
  · split
    · exact h
    · split <;> omega
theorem e_v (hA : q_ok A) (hs : s < 256) (hk : k < qM A) (hb : s.testBit k = true) : sq_e A s k = 1000000 ∨ sq_e A s k ≤ 1680 := by
  have hM := hA.1
  rw [sq_e_eq hM hs (by omega) hb]
  split
  · exact gn_v hA hk
  · by_cases q : sq_mn (fun j => sq_gn A k (qW A j k) (sq_e A (s - 2 ^ k) j)) (s - 2 ^ k) (qM A) < 1000000
    · obtain ⟨i, _, _, h3⟩ := mn_ex _ q
      rw [← h3]
      exact gn_v hA hk
    · have := mn_le (f := fun j => sq_gn A k (qW A j k) (sq_e A (s - 2 ^ k) j)) (s := s - 2 ^ k) (qM A)
      omega
theorem se_v (hA : q_ok A) (hs : s < 256) : sq_se A s = 1000000 ∨ sq_se A s ≤ 1680 := by
  have hb := hA.2.1
  unfold sq_se
  split
  · omega
  · by_cases q : sq_mn (sq_e A s) s (qM A) < 1000000
    · obtain ⟨i, h1, h2, h3⟩ := mn_ex _ q
      rw [← h3]
      exact e_v hA hs h1 h2
    · have := mn_le (f := sq_e A s) (s := s) (qM A)
      omega
/-! the latest leave, plus one; 0: none -/
def sq_mx (f : Nat → Nat) (s : Nat) : Nat → Nat
  | 0 => 0
  | j + 1 => if s.testBit j = true then max (sq_mx f s j) (f j) else sq_mx f s j
def sq_c (A : ms_Q) (k way L : Nat) : Nat := if qO A k < min (qC A k) (L - qV A k) then min (qC A k) (L - qV A k) - way else 0
def sq_L (A : ms_Q) (g : Nat) : Nat → Nat → Nat → Nat
  | 0 => fun _ _ => 0
  | n + 1 => fun s k => if s = 0 then g + 1 else sq_mx (fun j => sq_c A j (qW A k j) (sq_L A g n (s - 2 ^ j) j)) s (qM A)
def sq_l (A : ms_Q) (g s k : Nat) : Nat := sq_L A g (s + 1) s k
theorem L_s {g n : Nat} : sq_L A g (n + 1) s k = if s = 0 then g + 1 else sq_mx (fun j => sq_c A j (qW A k j) (sq_L A g n (s - 2 ^ j) j)) s (qM A) := rfl
theorem mx_s : sq_mx f s (j + 1) = if s.testBit j = true then max (sq_mx f s j) (f j) else sq_mx f s j := rfl
theorem mx_cg : ∀ j, (∀ i, i < j → s.testBit i = true → f i = g i) → sq_mx f s j = sq_mx g s j
  | 0, _ => rfl
  | j + 1, h => by
    have ih := mx_cg j (fun i hi => h i (by omega))
    rw [mx_s, mx_s]
    by_cases q : s.testBit j = true
    · rw [if_pos q, if_pos q, ih, h j (by omega) q]
    · rw [if_neg q, if_neg q, ih]
theorem mx_iff : ∀ j, t < sq_mx f s j ↔ ∃ i, i < j ∧ s.testBit i = true ∧ t < f i
  | 0 => ⟨fun h => by simp [sq_mx] at h, fun ⟨i, h, _⟩ => by omega⟩
  | j + 1 => by
    have ih := mx_iff j
    rw [mx_s]
    by_cases q : s.testBit j = true
    · rw [if_pos q]
      constructor
      · intro h
        by_cases c : t < f j
        · exact ⟨j, by omega, q, c⟩
        · obtain ⟨i, h1, h2, h3⟩ := ih.mp (by omega)
          exact ⟨i, by omega, h2, h3⟩
      · rintro ⟨i, h1, h2, h3⟩
        by_cases c : i = j
        · subst c; omega
        · have := ih.mpr ⟨i, by omega, h2, h3⟩
          omega
    · rw [if_neg q, ih]
      constructor
      · rintro ⟨i, h1, h2, h3⟩
        exact ⟨i, by omega, h2, h3⟩
      · rintro ⟨i, h1, h2, h3⟩
        refine ⟨i, ?_, h2, h3⟩
        by_cases c : i = j
        · subst c; exact absurd h2 q
        · omega
theorem sl_st {g : Nat} (hM : qM A ≤ 8) : ∀ n m s k, s < n → s < m → s < 256 → sq_L A g n s k = sq_L A g m s k
  | 0, _, s, _, h, _, _ => by omega
  | n + 1, 0, s, _, _, h, _ => by omega
  | n + 1, m + 1, s, k, h1, h2, hs => by
    rw [L_s, L_s]
    by_cases q : s = 0
    · rw [if_pos q, if_pos q]
    · rw [if_neg q, if_neg q]
      refine mx_cg _ (fun i hi hb2 => ?_)
      obtain ⟨_, b2, b3⟩ := bx s hs i (by omega) hb2
      rw [sl_st hM n m _ i (by omega) (by omega) (by omega)]
theorem sq_l_eq {g : Nat} (hM : qM A ≤ 8) (hs : s < 256) : sq_l A g s k = if s = 0 then g + 1 else sq_mx (fun j => sq_c A j (qW A k j) (sq_l A g (s - 2 ^ j) j)) s (qM A) := by
  show sq_L A g (s + 1) s k = _
  rw [L_s]
  by_cases q : s = 0
  · rw [if_pos q, if_pos q]
  · rw [if_neg q, if_neg q]
    refine mx_cg _ (fun i hi hb2 => ?_)
    obtain ⟨_, b2, b3⟩ := bx s hs i (by omega) hb2
    unfold sq_l
    rw [sl_st hM s (s - 2 ^ i + 1) _ i (by omega) (by omega) (by omega)]
theorem c_le (hA : q_ok A) (hk : k < qM A) : sq_c A k way L ≤ 1440 := by
  have a := hA.2.2.1 k hk
  unfold sq_c
  split <;> omega
theorem mx_le {b : Nat} : ∀ j, (∀ i, i < j → f i ≤ b) → sq_mx f s j ≤ b
  | 0, _ => by simp [sq_mx]
  | j + 1, h => by
    have ih := mx_le j (fun i hi => h i (by omega))
    have := h j (by omega)
    rw [mx_s]
    split <;> omega
theorem l_le {g : Nat} (hA : q_ok A) (hg : g < 1000000) (hs : s < 256) : sq_l A g s k ≤ g + 1 ∨ sq_l A g s k ≤ 1440 := by
  rw [sq_l_eq hA.1 hs]
  split
  · exact Or.inl (Nat.le_refl _)
  · exact Or.inr (mx_le _ (fun i hi => c_le hA hi))
theorem lv_iff (hA : q_ok A) (hj : j < qM A) (hL : L ≤ 1000000) : sq_gn A j way t < L ↔ t < sq_c A j way L := by
  have a := hA.2.2.1 j hj
  unfold sq_gn sq_c
  by_cases h1 : 1000000 ≤ way ∨ 1000000 ≤ t
  · rw [if_pos h1]
    constructor
    · intro h; omega
    · intro h
      split at h <;> omega
  · rw [if_neg h1]
    by_cases h2 : qC A j ≤ t + way
    · rw [if_pos h2]
      constructor
      · intro h; omega
      · intro h
        split at h <;> omega
    · rw [if_neg h2]
      by_cases h3 : t + way < qO A j
      · rw [if_pos h3]
        constructor
        · intro h
          rw [if_pos (by omega)]; omega
        · intro h
          split at h <;> omega
      · rw [if_neg h3]
        constructor
        · intro h
          rw [if_pos (by omega)]; omega
        · intro h
          split at h <;> omega
/-- the way from the place last (0 the begin, i + 1 member i) -/
def sq_w (A : ms_Q) (last k : Nat) : Nat := if last = 0 then qF A k else qW A (last - 1) k
def sq_P (A : ms_Q) (g r last t j : Nat) : Prop := r.testBit j = true ∧ sq_gn A j (sq_w A last j) t < sq_l A g (r - 2 ^ j) j
theorem LL {g r i : Nat} (hA : q_ok A) (hg : g < 1000000) (hr : r < 256) (h0 : r ≠ 0) : t < sq_l A g r i ↔ ∃ j, j < qM A ∧ sq_P A g r (i + 1) t j := by
  have hM := hA.1
  rw [sq_l_eq hM hr, if_neg h0, mx_iff]
  constructor
  · rintro ⟨j, h1, h2, h3⟩
    obtain ⟨_, b2, b3⟩ := bx r hr j (by omega) h2
    have hl := l_le (k := j) hA hg (show r - 2 ^ j < 256 by omega)
    exact ⟨j, h1, h2, (lv_iff hA h1 (by omega)).mpr h3⟩
  · rintro ⟨j, h1, h2, h3⟩
    obtain ⟨_, b2, b3⟩ := bx r hr j (by omega) h2
    have hl := l_le (k := j) hA hg (show r - 2 ^ j < 256 by omega)
    exact ⟨j, h1, h2, (lv_iff hA h1 (by omega)).mp h3⟩
theorem cb1 : ∀ m, m < 9 → ∀ s, s < 2 ^ m → ∀ k, k < m → s.testBit k = true → (2 ^ m - 1 - s).testBit k = false := by decide +kernel
theorem cb2 : ∀ m, m < 9 → ∀ s, s < 2 ^ m → ∀ k, k < m → s.testBit k = true → 2 ^ m - 1 - (s - 2 ^ k) = 2 ^ m - 1 - s + 2 ^ k := by decide +kernel
theorem cb3 : ∀ m, m < 9 → ∀ s, s < 2 ^ m → ∀ k, k < m → s.testBit k = true → (2 ^ m - 1 - (s - 2 ^ k)).testBit k = true := by decide +kernel
theorem cb4 : ∀ m, m < 9 → ∀ s, s < 2 ^ m → ∀ k, k < m → s.testBit k = false → (2 ^ m - 1 - s).testBit k = true := by decide +kernel
theorem cb5 : ∀ m, m < 9 → ∀ s, s < 2 ^ m → ∀ k, k < m → s.testBit k = false → s + 2 ^ k < 2 ^ m := by decide +kernel
theorem cb6 : ∀ m, m < 9 → ∀ s, s < 2 ^ m → ∀ k, k < m → s.testBit k = false → (s + 2 ^ k).testBit k = true := by decide +kernel
theorem cb7 : ∀ m, m < 9 → ∀ s, s < 2 ^ m → ∀ k, k < m → s.testBit k = false → s ||| 2 ^ k = s + 2 ^ k := by decide +kernel
theorem pw8 (m : Nat) (h : m ≤ 8) : 2 ^ m ≤ 256 := Nat.pow_le_pow_right (n := 2) (by decide) h
/-- a fast way to all of s that leaves time for the rest: then the whole can be done in time -/
theorem feas {g : Nat} (hA : q_ok A) (hg : g < 1000000) : ∀ n s k, s < n → s < 2 ^ qM A → k < qM A → s.testBit k = true → sq_e A s k < sq_l A g (2 ^ qM A - 1 - s) k → ∃ j, j < qM A ∧ sq_P A g (2 ^ qM A - 1) 0 (qB A) j
  | 0, s, k, h, _, _, _, _ => by omega
  | n + 1, s, k, h, hs, hk, hb, he => by
    have hM := hA.1
    have h8 := pw8 _ hM
    obtain ⟨_, b2, b3⟩ := bx s (by omega) k (by omega) hb
    have c2 := cb2 _ (show qM A < 9 by omega) s hs k hk hb
    have c3 := cb3 _ (show qM A < 9 by omega) s hs k hk hb
    rw [sq_e_eq hM (by omega) (by omega) hb] at he
    by_cases q : s - 2 ^ k = 0
    · rw [if_pos q] at he
      rw [q, Nat.sub_zero] at c2 c3
      refine ⟨k, hk, c3, ?_⟩
      rw [c2, Nat.add_sub_cancel]
      exact he
    · rw [if_neg q] at he
      have hl := l_le (k := k) hA hg (show 2 ^ qM A - 1 - s < 256 by omega)
      obtain ⟨i, i1, i2, i3⟩ := mn_ex _ (show sq_mn (fun j => sq_gn A k (qW A j k) (sq_e A (s - 2 ^ k) j)) (s - 2 ^ k) (qM A) < 1000000 by omega)
      rw [← i3] at he
      refine feas hA hg n (s - 2 ^ k) i (by omega) (by omega) i1 i2 ?_
      refine (LL hA hg (by omega) ?_).mpr ⟨k, hk, c3, ?_⟩
      · intro z
        rw [z] at c3
        simp at c3
      · rw [c2, Nat.add_sub_cancel]
        exact he
theorem feas0 {g : Nat} (hA : q_ok A) (h0 : 0 < qM A) (hg : sq_se A (2 ^ qM A - 1) = g) (hg2 : g < 1000000) : ∃ j, j < qM A ∧ sq_P A g (2 ^ qM A - 1) 0 (qB A) j := by
  have hM := hA.1
  have h8 := pw8 _ hM
  have h1 : 2 ≤ 2 ^ qM A := by
    have := Nat.pow_le_pow_right (n := 2) (by omega) h0
    omega
  unfold sq_se at hg
  rw [if_neg (by omega)] at hg
  obtain ⟨i, i1, i2, i3⟩ := mn_ex (f := sq_e A (2 ^ qM A - 1)) (s := 2 ^ qM A - 1) (qM A) (by omega)
  refine feas hA hg2 (2 ^ qM A) (2 ^ qM A - 1) i (by omega) (by omega) i1 i2 ?_
  rw [sq_l_eq hM (by omega), if_pos (by omega)]
  omega
/-! the first that is in time; the whole order -/
def sq_f (A : ms_Q) (g r last t : Nat) : Nat → Nat → Nat
  | 0, i => i
  | m + 1, i => if r.testBit i = true ∧ sq_gn A i (sq_w A last i) t < sq_l A g (r - 2 ^ i) i then i else sq_f A g r last t m (i + 1)
theorem f_eq {g r last : Nat} (hP : sq_P A g r last t k) : ∀ m i, i ≤ k → k < i + m → (∀ j, i ≤ j → j < k → ¬ sq_P A g r last t j) → sq_f A g r last t m i = k
  | 0, i, h1, h2, _ => by omega
  | m + 1, i, h1, h2, h => by
    unfold sq_f
    by_cases q : i = k
    · subst q
      exact if_pos hP
    · rw [show (if r.testBit i = true ∧ sq_gn A i (sq_w A last i) t < sq_l A g (r - 2 ^ i) i then i else sq_f A g r last t m (i + 1)) = sq_f A g r last t m (i + 1) from if_neg (h i (Nat.le_refl _) (by omega))]
      exact f_eq hP m (i + 1) (by omega) (by omega) (fun j a b => h j (by omega) b)
def sq_g (A : ms_Q) (g : Nat) : Nat → Nat → Nat → Nat → Nat → Nat
  | 0 => fun _ _ _ _ => 0
  | n + 1 => fun r last t i => if i = 0 then sq_f A g r last t (qM A) 0 else sq_g A g n (r - 2 ^ sq_f A g r last t (qM A) 0) (sq_f A g r last t (qM A) 0 + 1) (sq_gn A (sq_f A g r last t (qM A) 0) (sq_w A last (sq_f A g r last t (qM A) 0)) t) (i - 1)
theorem g_s {g n r last i : Nat} : sq_g A g (n + 1) r last t i = if i = 0 then sq_f A g r last t (qM A) 0 else sq_g A g n (r - 2 ^ sq_f A g r last t (qM A) 0) (sq_f A g r last t (qM A) 0 + 1) (sq_gn A (sq_f A g r last t (qM A) 0) (sq_w A last (sq_f A g r last t (qM A) 0)) t) (i - 1) := rfl
end SQ
