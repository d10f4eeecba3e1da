/-! ===== the class's search ===== -/
def sp_cn (s : Nat) : Nat → Nat
  | 0 => 0
  | j + 1 => sp_cn s j + (if s.testBit j = true then 1 else 0)
def sp_mb (s : Nat) : Nat → Nat → Nat
  | 0 => fun _ => 0
  | j + 1 => fun k => if s.testBit j = true ∧ k = sp_cn s j then j else sp_mb s j k
theorem cn_s {s j : Nat} : sp_cn s (j + 1) = sp_cn s j + (if s.testBit j = true then 1 else 0) := rfl
theorem mb_s {s j k : Nat} : sp_mb s (j + 1) k = if s.testBit j = true ∧ k = sp_cn s j then j else sp_mb s j k := rfl
theorem cn_mono {s : Nat} : ∀ i j, i ≤ j → sp_cn s i ≤ sp_cn s j := by
  intro i j
  induction j with
  | zero => intro h; rw [show i = 0 by omega]; exact Nat.le_refl _
  | succ j ih =>
    intro h
    by_cases q : i = j + 1
    · rw [q]; exact Nat.le_refl _
    · have := ih (by omega)
      rw [cn_s]
      omega
theorem mb_p {s : Nat} : ∀ j k, k < sp_cn s j → sp_mb s j k < j ∧ s.testBit (sp_mb s j k) = true
  | 0, k, h => by simp [sp_cn] at h
  | j + 1, k, h => by
    rw [mb_s]
    rw [cn_s] at h
    by_cases q : s.testBit j = true ∧ k = sp_cn s j
    · rw [if_pos q]
      exact ⟨by omega, q.1⟩
    · rw [if_neg q]
      have : k < sp_cn s j := by
        by_cases b : s.testBit j = true
        · rw [if_pos b] at h
          have : ¬ k = sp_cn s j := fun e => q ⟨b, e⟩
          omega
        · rw [if_neg b] at h; omega
      have ih := mb_p j k this
      exact ⟨by omega, ih.2⟩
theorem mb_lt2 {s : Nat} : ∀ j a b, a < b → b < sp_cn s j → sp_mb s j a < sp_mb s j b
  | 0, a, b, _, h => by simp [sp_cn] at h
  | j + 1, a, b, hab, h => by
    rw [mb_s, mb_s]
    rw [cn_s] at h
    by_cases c : s.testBit j = true
    · rw [if_pos c] at h
      have qa : ¬ (s.testBit j = true ∧ a = sp_cn s j) := fun e => by omega
      rw [if_neg qa]
      by_cases qb : b = sp_cn s j
      · rw [if_pos ⟨c, qb⟩]
        exact (mb_p j a (by omega)).1
      · rw [if_neg (fun e => qb e.2)]
        exact mb_lt2 j a b hab (by omega)
    · rw [if_neg c] at h
      rw [if_neg (fun e => c e.1), if_neg (fun e => c e.1)]
      exact mb_lt2 j a b hab (by omega)
theorem mb_on {s : Nat} : ∀ j h, h < j → s.testBit h = true → ∃ k, k < sp_cn s j ∧ sp_mb s j k = h
  | 0, h, q, _ => by omega
  | j + 1, h, q, b => by
    by_cases e : h = j
    · subst e
      refine ⟨sp_cn s h, by rw [cn_s, if_pos b]; omega, by rw [mb_s, if_pos ⟨b, rfl⟩]⟩
    · obtain ⟨k, k1, k2⟩ := mb_on j h (by omega) b
      refine ⟨k, by rw [cn_s]; omega, ?_⟩
      rw [mb_s, if_neg (fun e => by omega)]
      exact k2
theorem cn_2 {s : Nat} : ∀ n, sp_cn s (n + 1) = s % 2 + sp_cn (s / 2) n
  | 0 => by
    show 0 + (if s.testBit 0 = true then 1 else 0) = s % 2 + 0
    rw [Nat.testBit_zero]
    by_cases q : s % 2 = 1
    · simp [q]
    · have : s % 2 = 0 := by omega
      simp [this]
  | n + 1 => by
    rw [cn_s, cn_2 n, cn_s, Nat.testBit_succ]
    omega
theorem cn_pc {s : Nat} : ∀ n s, sp_cn s n = sp_pc n s
  | 0, _ => rfl
  | n + 1, s => by rw [cn_2, pc_s, cn_pc (s := s) n (s / 2)]
def sq_A (D : Nat → Nat) (l : List ms_Op) (s w : Nat) : ms_Q := (sp_cn s (D 2), D (168 + 15 * w + 1), fun k => sp_fc D (D (168 + 15 * w)) (sp_mb s (D 2) k), fun k => D (56 + 7 * sp_mb s (D 2) k + 4), fun k => D (56 + 7 * sp_mb s (D 2) k + 5), fun k => sp_vis D l (sp_mb s (D 2) k) (D (56 + 7 * sp_mb s (D 2) k + 6)) 1, fun j k => sp_bt D (sp_mb s (D 2) j) (sp_mb s (D 2) k))
theorem sq_A_ok {D : Nat → Nat} {l : List ms_Op} {s w : Nat} (hV : sp_V D l) (hw : w < D 3) (hc : sp_cn s (D 2) ≤ 8) : q_ok (sq_A D l s w) := by
  refine ⟨hc, (hV.2.2.2.1 w hw).2.1, fun k hk => ?_, fun j k hj hk => ?_⟩
  · have hm := (mb_p (D 2) k hk).1
    have v := hV.2.2.1 _ hm
    refine ⟨v.2.2.2.2.1, v.2.2.2.2.2.1, vis_le.2, ?_⟩
    have := fc_lt (c := D (168 + 15 * w)) hV hm
    show sp_fc D (D (168 + 15 * w)) (sp_mb s (D 2) k) < 2 ^ 30
    omega
  · have := bt_lt hV (mb_p (D 2) j hj).1 (mb_p (D 2) k hk).1
    show sp_bt D (sp_mb s (D 2) j) (sp_mb s (D 2) k) < 2 ^ 30
    omega
theorem bt_xor (a b : Nat) : nI a ^^^ nI b = nI (a ^^^ b) := by
  apply Int32.toBitVec_inj.1
  show BitVec.ofNat 32 a ^^^ BitVec.ofNat 32 b = BitVec.ofNat 32 (a ^^^ b)
  apply BitVec.eq_of_getLsbD_eq
  intro i hi
  simp [hi]
theorem td_far {x : Nat} (h : 1000000 ≤ x) : sp_td x = -1 := by unfold sp_td; rw [if_neg (by omega)]; rfl
theorem td_near {x : Nat} (h : x < 1000000) : sp_td x = nI x := if_pos h
theorem q_cont {E : ms_En} {u : ms_St} {A B : ms_St → Prop} {s h : Nat} (hs : s < 2 ^ 31) (hh : h < 31) (f : s.testBit h = true → A u) (g : s.testBit h = false → B u) : wp_X10_contains E u (nI s) (nI h) (fun r v => (r = 0 → B v) ∧ (¬ r = 0 → A v)) := by
  refine q_contains hs hh ?_
  by_cases q : s.testBit h = true
  · rw [if_pos q]; exact ⟨fun e => absurd e (by decide), fun _ => f q⟩
  · rw [if_neg q]; exact ⟨fun _ => g (by simpa using q), fun e => absurd rfl e⟩
def cq_A (u : ms_St) (A : ms_Q) : Prop := ms_I u 60 0 = nI (qM A) ∧ ms_I u 60 9 = nI (qB A) ∧ ∀ k, k < qM A → ms_I u 63 k = nI (qO A k) ∧ ms_I u 64 k = nI (qC A k) ∧ ms_I u 65 k = nI (qV A k) ∧ ms_I u 67 k = sp_td (qF A k) ∧ ∀ j, j < qM A → ms_I u 66 (j * 8 + k) = sp_td (qW A j k)
def fr (c : Nat) (u0 u : ms_St) : Prop := (∀ a b, a ≠ c → ms_I u a b = ms_I u0 a b) ∧ ms_J u = ms_J u0
theorem fr_w {c b : Nat} {v : Int32} {u0 u : ms_St} (h : fr c u0 u) : fr c u0 (ms_sI u c b v) := ⟨fun x y q => by rw [I_sI, if_neg (by omega)]; exact h.1 x y q, h.2⟩
theorem fr_A {c : Nat} {u0 u : ms_St} {A : ms_Q} (h : fr c u0 u) (hc : 68 ≤ c ∨ c = 61 ∨ c = 62) (hA : cq_A u0 A) : cq_A u A := by
  obtain ⟨a, b, r⟩ := hA
  refine ⟨by rw [h.1 60 0 (by omega)]; exact a, by rw [h.1 60 9 (by omega)]; exact b, fun k hk => ?_⟩
  obtain ⟨r1, r2, r3, r4, r5⟩ := r k hk
  exact ⟨by rw [h.1 63 k (by omega)]; exact r1, by rw [h.1 64 k (by omega)]; exact r2, by rw [h.1 65 k (by omega)]; exact r3, by rw [h.1 67 k (by omega)]; exact r4, fun j hj => by rw [h.1 66 _ (by omega)]; exact r5 j hj⟩
section SK
variable {A : ms_Q} {u u0 : ms_St} {s k j way t a b : Nat} {post : Int32 → ms_St → Prop} {pv : ms_St → Prop}
theorem c_visitEnd (hA : q_ok A) (hu : cq_A u A) (hk : k < qM A) (ht : t < 1000000) (hp : post (sp_td (sq_gn A k way t)) u) : wp_X2_visitEnd ms_E0 u 60 (nI k) (sp_td way) (nI t) post := by
  have c := hA.2.2.1 k hk
  have hM := hA.1
  obtain ⟨r1, r2, r3, r4, r5⟩ := hu.2.2 k hk
  have vk : vp_in (nI k) 8 := vp_in_nI (by omega) (by omega)
  have gv := gn_v (way := way) (t := t) hA hk
  unfold wp_X2_visitEnd wp_X2_visitEnd_17
  refine td_NO (fun q => ?_) (fun q => ⟨vk, ?_⟩)
  · have e : sq_gn A k way t = 1000000 := by unfold sq_gn; rw [if_pos (Or.inl q)]
    rw [e, td_far (Nat.le_refl _)] at hp
    exact hp
  · rw [td_near q, at_60_5, at_60_4, at_60_6, nI_clamp (by omega), r1, r2, r3, nI_add]
    refine pk_lt (t + way) (qC A k) (fun q2 => ⟨vk, vk, ?_⟩) (fun q2 => ?_)
    · have e : sq_gn A k way t = (if t + way < qO A k then qO A k else t + way) + qV A k := by unfold sq_gn; rw [if_neg (by omega), if_neg (by omega)]
      have e2 : (if nI (t + way) < nI (qO A k) then nI (qO A k) else nI (t + way)) + nI (qV A k) = nI ((if t + way < qO A k then qO A k else t + way) + qV A k) := by
        by_cases c : t + way < qO A k
        · rw [if_pos (nI_lt c (by omega)), if_pos c, nI_add]
        · rw [if_neg (nI_nlt (by omega) (by omega)), if_neg c, nI_add]
      have hb : (if t + way < qO A k then qO A k else t + way) + qV A k < 1000000 := by split <;> omega
      rw [e2]
      rw [e, td_near hb] at hp
      exact hp
    · have e : sq_gn A k way t = 1000000 := by unfold sq_gn; rw [if_neg (by omega), if_pos (by omega)]
      rw [e, td_far (Nat.le_refl _)] at hp
      exact hp
theorem td_min1 (h : 1000000 ≤ a) : sp_td (min a b) = sp_td b := by
  by_cases q : b < 1000000
  · rw [Nat.min_eq_right (by omega)]
  · rw [td_far (show 1000000 ≤ b by omega), td_far (by omega)]
theorem td_min2 (h : 1000000 ≤ b) : sp_td (min a b) = sp_td a := by rw [Nat.min_comm]; exact td_min1 h
theorem c_earlier (hp : post (sp_td (min a b)) u) : wp_X2_earlier ms_E0 u (sp_td a) (sp_td b) post := by
  unfold wp_X2_earlier wp_X2_earlier_21
  refine td_NO (fun q => ?_) (fun q => td_NO (fun q2 => ?_) (fun q2 => ?_))
  · rw [td_min1 q] at hp; exact hp
  · rw [td_min2 q2] at hp; exact hp
  · rw [td_near q, td_near q2, nI_min' (by omega) (by omega)]
    rw [td_near (by omega)] at hp
    exact hp
theorem c_eA25 (hA : q_ok A) (hu : cq_A u A) (hs : s < 256) (hk : k < qM A) (hT : ∀ j, j < qM A → s.testBit j = true → ms_I u 68 (s * 8 + j) = sp_td (sq_e A s j)) (hp : post (sp_td (sq_mn (fun j => sq_gn A k (qW A j k) (sq_e A s j)) s (qM A))) u) : ∀ m j, j + m = qM A → wp_X2_earliestAfter_25 ms_E0 60 (nI s) (nI k) post (m + 1) u (sp_td (sq_mn (fun j => sq_gn A k (qW A j k) (sq_e A s j)) s j)) (nI j) := by
  have hM := hA.1
  intro m
  induction m with
  | zero =>
    intro j hj
    have e : j = qM A := by omega
    subst e
    unfold wp_X2_earliestAfter_25
    rw [hu.1]
    exact ⟨fun _ => hp, fun q => absurd (nI_le (Nat.le_refl _) (by omega)) q⟩
  | succ m ih =>
    intro j hj
    have ih := ih (j + 1) (by omega)
    rw [mn_s] at ih
    unfold wp_X2_earliestAfter_25 wp_X2_earliestAfter_97
    rw [hu.1]
    refine ⟨fun q => absurd q (nI_ge (by omega) (by omega)), fun _ => q_cont (by omega) (by omega) (fun b => ?_) (fun b => ?_)⟩
    · rw [if_pos b] at ih
      rw [show (8 : Int32) = nI 8 from rfl, pk_mul, pk_mul, nI_add, nI_add, at_60_10, at_60_7, nI_clamp (show s * 8 + j < 2 ^ 31 by omega), nI_clamp (show j * 8 + k < 2 ^ 31 by omega), hT j (by omega) b, (hu.2.2 k hk).2.2.2.2 j (by omega), nI_1]
      have v1 : vp_in (nI (s * 8 + j)) 2048 := vp_in_nI (by omega) (by omega)
      refine ⟨v1, td_NO (fun q => ?_) (fun q => ⟨vp_in_nI (by omega) (by omega), v1, ?_⟩)⟩
      · have e : sq_gn A k (qW A j k) (sq_e A s j) = 1000000 := by unfold sq_gn; rw [if_pos (Or.inr q)]
        rw [e, td_min2 (Nat.le_refl _)] at ih
        exact ih
      · rw [td_near q]
        exact c_visitEnd hA hu hk q (c_earlier ih)
    · rw [if_neg (by rw [b]; decide)] at ih
      rw [nI_1]
      exact ih
theorem c_earliestAfter (hA : q_ok A) (hu : cq_A u A) (hs : s < 256) (hk : k < qM A) (hb : s.testBit k = true) (hT : ∀ j, j < qM A → (s - 2 ^ k).testBit j = true → ms_I u 68 ((s - 2 ^ k) * 8 + j) = sp_td (sq_e A (s - 2 ^ k) j)) (hp : post (sp_td (sq_e A s k)) u) : wp_X2_earliestAfter ms_E0 u 60 (nI (s - 2 ^ k)) (nI k) post := by
  have hM := hA.1
  have hB := hA.2.1
  rw [sq_e_eq hM hs (by omega) hb] at hp
  have hx := Nat.sub_le s (2 ^ k)
  unfold wp_X2_earliestAfter
  refine pk_eq (s - 2 ^ k) 0 (fun q => ?_) (fun q => ⟨qM A + 1, ?_⟩)
  · rw [if_pos q] at hp
    rw [at_60_8, nI_clamp (by omega), (hu.2.2 k hk).2.2.2.1, hu.2.1]
    exact ⟨vp_in_nI (by omega) (by omega), c_visitEnd hA hu hk (by omega) hp⟩
  · rw [if_neg q] at hp
    exact c_eA25 hA hu (by omega) hk hT hp (qM A) 0 (by omega)
def fe_T (u : ms_St) (A : ms_Q) (s j : Nat) : Prop := ∀ r k, k < qM A → r.testBit k = true → (r < s ∨ (r = s ∧ k < j)) → ms_I u 68 (r * 8 + k) = sp_td (sq_e A r k)
theorem c_fE14 {k2 : ms_St → Int32 → Prop} (hA : q_ok A) (hu : cq_A u0 A) (hs : s < 2 ^ qM A) (hp : ∀ u', fr 68 u0 u' → fe_T u' A (s + 1) 0 → k2 u' (nI (s + 1))) : ∀ m j u, j + m = qM A → fr 68 u0 u → fe_T u A s j → wp_X2_findEarly_14 ms_E0 60 pv k2 (m + 1) u (nI s) (nI j) := by
  have hM := hA.1
  have h8 := pw8 _ hM
  intro m
  induction m with
  | zero =>
    intro j u hj hF hT
    have e : j = qM A := by omega
    subst e
    unfold wp_X2_findEarly_14
    rw [(fr_A hF (by omega) hu).1, nI_1]
    exact ⟨fun _ => hp u hF (fun r k h1 h2 h3 => hT r k h1 h2 (by omega)), fun q => absurd (nI_le (Nat.le_refl _) (by omega)) q⟩
  | succ m ih =>
    intro j u hj hF hT
    have hu' := fr_A hF (by omega) hu
    unfold wp_X2_findEarly_14 wp_X2_findEarly_51
    rw [hu'.1]
    refine ⟨fun q => absurd q (nI_ge (by omega) (by omega)), fun _ => q_cont (by omega) (by omega) (fun b => ?_) (fun b => ?_)⟩
    · obtain ⟨b1, b2, b3⟩ := bx s (by omega) j (by omega) b
      rw [bt_1 (by omega), bt_xor, b1, show (8 : Int32) = nI 8 from rfl, pk_mul, nI_add, at_60_10, nI_clamp (by omega), nI_1]
      refine c_earliestAfter hA hu' (by omega) (by omega) b (fun i hi hb => hT _ i hi hb (by omega)) ⟨vp_in_nI (by omega) (by omega), ih (j + 1) _ (by omega) (fr_w hF) (fun r k h1 h2 h3 => ?_)⟩
      rw [I_sI]
      by_cases q : r = s ∧ k = j
      · rw [if_pos ⟨rfl, by rw [q.1, q.2]⟩, q.1, q.2]
      · rw [if_neg (by omega)]
        exact hT r k h1 h2 (by omega)
    · rw [nI_1]
      refine ih (j + 1) u (by omega) hF (fun r k h1 h2 h3 => hT r k h1 h2 ?_)
      by_cases q : r = s ∧ k = j
      · rw [q.1, q.2, b] at h2
        exact absurd h2 (by decide)
      · omega
theorem c_fE2 (hA : q_ok A) (hu : cq_A u0 A) (hp : ∀ u', fr 68 u0 u' → fe_T u' A (2 ^ qM A) 0 → pv u') : ∀ m s u, s + m = 2 ^ qM A → fr 68 u0 u → fe_T u A s 0 → wp_X2_findEarly_2 ms_E0 60 pv (m + 1) u (nI s) := by
  have hM := hA.1
  have h8 := pw8 _ hM
  intro m
  induction m with
  | zero =>
    intro s u hj hF hT
    have e : s = 2 ^ qM A := by omega
    unfold wp_X2_findEarly_2
    rw [(fr_A hF (by omega) hu).1, bt_1 (by omega), e]
    rw [e] at hT
    exact ⟨fun _ => hp u hF hT, fun q => absurd (nI_le (Nat.le_refl _) (by omega)) q⟩
  | succ m ih =>
    intro s u hj hF hT
    unfold wp_X2_findEarly_2
    rw [(fr_A hF (by omega) hu).1, bt_1 (by omega)]
    exact ⟨fun q => absurd q (nI_ge (by omega) (by omega)), fun _ => ⟨qM A + 1, c_fE14 hA hu (by omega) (fun u' h1 h2 => ih (s + 1) u' (by omega) h1 h2) (qM A) 0 u (by omega) hF hT⟩⟩
theorem c_findEarly (hA : q_ok A) (hu : cq_A u A) (hp : ∀ u', fr 68 u u' → fe_T u' A (2 ^ qM A) 0 → pv u') : wp_X2_findEarly ms_E0 u 60 pv := by
  have p := Nat.two_pow_pos (qM A)
  unfold wp_X2_findEarly
  refine ⟨2 ^ qM A - 1 + 1, c_fE2 hA hu hp (2 ^ qM A - 1) 1 u (by omega) ⟨fun _ _ _ => rfl, rfl⟩ (fun r k h1 h2 h3 => ?_)⟩
  have : r = 0 := by omega
  rw [this] at h2
  simp at h2
theorem c_earliestEnd (hA : q_ok A) (hu : cq_A u A) (hs : s < 2 ^ qM A) (hT : fe_T u A (2 ^ qM A) 0) (hp : post (sp_td (sq_se A s)) u) : wp_X2_earliestEnd ms_E0 u 60 (nI s) post := by
  have hM := hA.1
  have hB := hA.2.1
  have h8 := pw8 _ hM
  unfold sq_se at hp
  unfold wp_X2_earliestEnd
  refine pk_eq s 0 (fun q => ?_) (fun q => ⟨qM A + 1, ?_⟩)
  · rw [if_pos q, td_near (by omega)] at hp
    rw [hu.2.1]
    exact hp
  · rw [if_neg q] at hp
    have st : ∀ m j, j + m = qM A → wp_X2_earliestEnd_13 ms_E0 60 (nI s) post (m + 1) u (sp_td (sq_mn (sq_e A s) s j)) (nI j) := by
      intro m
      induction m with
      | zero =>
        intro j hj
        have e : j = qM A := by omega
        subst e
        unfold wp_X2_earliestEnd_13
        rw [hu.1]
        exact ⟨fun _ => hp, fun q => absurd (nI_le (Nat.le_refl _) (by omega)) q⟩
      | succ m ih =>
        intro j hj
        have ih := ih (j + 1) (by omega)
        rw [mn_s] at ih
        unfold wp_X2_earliestEnd_13 wp_X2_earliestEnd_45
        rw [hu.1]
        refine ⟨fun q => absurd q (nI_ge (by omega) (by omega)), fun _ => q_cont (by omega) (by omega) (fun b => ?_) (fun b => ?_)⟩
        · rw [if_pos b] at ih
          rw [show (8 : Int32) = nI 8 from rfl, pk_mul, nI_add, at_60_10, nI_clamp (by omega), hT s j (by omega) b (by omega), nI_1]
          exact ⟨vp_in_nI (by omega) (by omega), c_earlier ih⟩
        · rw [if_neg (by rw [b]; decide)] at ih
          rw [nI_1]
          exact ih
    exact st (qM A) 0 (by omega)
end SK
