/-! ===== the reference reads ===== -/
def mzb (c : Nat) : Int32 := if c < 256 then nI c else -1
theorem mzb_eq {c a : Nat} (ha : a < 256) : mzb c = nI a ↔ c = a := by
  unfold mzb
  by_cases h : c < 256
  · rw [if_pos h]
    constructor
    · intro e
      have : (nI c).toInt = (nI a).toInt := by rw [e]
      rw [nI_toInt (by omega), nI_toInt (by omega)] at this
      omega
    · intro e; rw [e]
  · rw [if_neg h]
    constructor
    · intro e; exact absurd e.symm (NO_ne (by omega))
    · intro e; omega
def bt_M (u : ms_St) (B : Nat → Nat) (N : Nat) : Prop := N ≤ 900 ∧ ms_I u 233 3 = nI N ∧ ∀ k, k < N → ms_I u 234 k = nI (B k) ∧ B k < 256
/-- a step of reading: what it may change -/
def nf (u u' : ms_St) : Prop := (∀ a b, ¬ (a = 233 ∧ (b = 4 ∨ b = 5 ∨ b = 6 ∨ b = 12)) → ms_I u' a b = ms_I u a b) ∧ ms_J u' = ms_J u
def pf (u u' : ms_St) : Prop := (∀ a b, ¬ (a = 233 ∧ b = 4) → ms_I u' a b = ms_I u a b) ∧ ms_J u' = ms_J u
def mp (u : ms_St) (B : Nat → Nat) (N q : Nat) : Prop := q ≤ N ∧ ∃ P, P ≤ N ∧ ms_I u 233 4 = nI P ∧ pz_s B N P = q
theorem pf_nf {u u' : ms_St} (h : pf u u') : nf u u' := ⟨fun a b z => h.1 a b (by omega), h.2⟩
theorem nf_tr {u v w : ms_St} (h : nf u v) (h2 : nf v w) : nf u w := ⟨fun a b z => (h2.1 a b z).trans (h.1 a b z), h2.2.trans h.2⟩
theorem nf_w {u v : ms_St} {b : Nat} {x : Int32} (h : nf u v) (hb : b = 4 ∨ b = 5 ∨ b = 6 ∨ b = 12) : nf u (ms_sI v 233 b x) := ⟨fun a c z => by rw [I_sI, if_neg (by omega)]; exact h.1 a c z, h.2⟩
section MR
variable {B : Nat → Nat} {N q lo hx k : Nat} {u u0 : ms_St} {pv : ms_St → Prop} {post : Int32 → ms_St → Prop} {a1 a2 : Int32}
theorem bt_nf {u' : ms_St} (h : nf u u') (hB : bt_M u B N) : bt_M u' B N := ⟨hB.1, by rw [h.1 233 3 (by omega)]; exact hB.2.1, fun k hk => by rw [h.1 234 k (by omega)]; exact hB.2.2 k hk⟩
theorem at_b (hB : bt_M u B N) : pz_at B N k ≤ 256 := by
  by_cases h : k < N
  · rw [at_lt h]; have := (hB.2.2 k h).2; omega
  · rw [at_ge (by omega)]; omega
theorem m_byteAt (hB : bt_M u B N) (hk : k < 10000) (hp : post (mzb (pz_at B N k)) u) : wp_X11_byteAt ms_E0 u 233 (nI k) post := by
  have hN := hB.1
  unfold wp_X11_byteAt wp_X11_byteAt_18
  rw [hB.2.1]
  refine pk_le N k (fun z => ?_) (fun z => ?_)
  · rw [at_ge z] at hp; exact hp
  · rw [at_233_1, nI_clamp (by omega), (hB.2.2 k z).1]
    rw [at_lt z] at hp
    have hb := (hB.2.2 k z).2
    unfold mzb at hp
    rw [if_pos hb] at hp
    exact ⟨vp_in_nI (by omega) (by omega), hp⟩
theorem m_next (hB : bt_M u B N) (hm : mp u B N q) (hp : ∀ u', pf u u' → ms_I u' 233 4 = nI q → post (mzb (pz_at B N q)) u') : wp_X11_next ms_E0 u 233 post := by
  obtain ⟨hq, P, hP, h4, hs⟩ := hm
  have hN := hB.1
  have st : ∀ m P v, N - P = m → P ≤ N → pf u v → ms_I v 233 4 = nI P → pz_s B N P = q → wp_X11_next_0 ms_E0 233 post (m + 1) v := by
    intro m
    induction m with
    | zero =>
      intro P v hm hPN hF h4 hs
      have hBv := bt_nf (pf_nf hF) hB
      have e : pz_at B N P ≠ 32 := by rw [at_ge (by omega)]; omega
      rw [s_stop e] at hs
      unfold wp_X11_next_0
      rw [h4]
      refine m_byteAt hBv (by omega) ⟨fun z => absurd ((mzb_eq (a := 32) (by omega)).mp z) e, fun _ => ?_⟩
      rw [h4]
      refine m_byteAt hBv (by omega) ?_
      rw [hs]
      exact hp v hF (by rw [h4, hs])
    | succ m ih =>
      intro P v hm hPN hF h4 hs
      have hBv := bt_nf (pf_nf hF) hB
      unfold wp_X11_next_0
      rw [h4]
      refine m_byteAt hBv (by omega) ⟨fun z => ?_, fun z => ?_⟩
      · have e : pz_at B N P = 32 := (mzb_eq (a := 32) (by omega)).mp z
        rw [s_step e] at hs
        rw [h4, nI_1]
        refine ih (P + 1) _ (by omega) (by omega) ⟨fun a b z2 => ?_, hF.2⟩ ?_ hs
        · rw [I_sI, if_neg z2]; exact hF.1 a b z2
        · rw [I_sI, if_pos ⟨rfl, rfl⟩]
      · have e : pz_at B N P ≠ 32 := fun y => z ((mzb_eq (a := 32) (by omega)).mpr y)
        rw [s_stop e] at hs
        rw [h4]
        refine m_byteAt hBv (by omega) ?_
        rw [hs]
        exact hp v hF (by rw [h4, hs])
  unfold wp_X11_next
  exact ⟨N - P + 1, st (N - P) P u rfl hP ⟨fun _ _ _ => rfl, rfl⟩ h4 hs⟩
theorem g_yes (h : ms_I u 233 5 = 0) (hp : post 1 u) : wp_X11_isGood ms_E0 u 233 post := by
  unfold wp_X11_isGood wp_X11_isGood_12
  rw [h]
  exact ⟨fun _ => ⟨Or.inr rfl, hp⟩, fun z => absurd rfl z⟩
theorem g_no (h : ¬ ms_I u 233 5 = 0) (hp : post 0 u) : wp_X11_isGood ms_E0 u 233 post := by
  unfold wp_X11_isGood wp_X11_isGood_12
  exact ⟨fun z => absurd z h, fun _ => ⟨Or.inl rfl, hp⟩⟩
theorem r_yes (h : ms_I u 233 5 = 0) (hp : pv (ms_sI (ms_sI u 233 5 a1) 233 6 a2)) : wp_X11_report ms_E0 u 233 a1 a2 pv := by
  unfold wp_X11_report
  exact ⟨fun _ => hp, fun z => absurd h z⟩
theorem r_no (h : ¬ ms_I u 233 5 = 0) (hp : pv u) : wp_X11_report ms_E0 u 233 a1 a2 pv := by
  unfold wp_X11_report
  exact ⟨fun z => absurd z h, fun _ => hp⟩
theorem er_0 {c : Nat} : ¬ er c = 0 := by
  unfold er
  split
  · decide
  · split
    · decide
    · split <;> decide
/-- at the token's first byte -/
theorem mp_at (h4 : ms_I u 233 4 = nI q) (hq : q ≤ N) (hc : pz_at B N q ≠ 32) : mp u B N q := ⟨hq, q, hq, h4, s_stop hc⟩
theorem m_takeWord {o : Nat} {w : List Nat} (hk : wk o w) (hl : 0 < w.length ∧ w.length < 100) (hB : bt_M u B N) (hm : mp u B N q) (hg : ms_I u 233 5 = 0) (hyes : pz_wd B N w q = true → ∀ u', pf u u' → ms_I u' 233 4 = nI (q + w.length) → post 1 u') (hno : ¬ pz_wd B N w q = true → ∀ u', pf u u' → ms_I u' 233 4 = nI q → post 0 u') : wp_X11_takeWord ms_E0 u 233 o post := by
  have hN := hB.1
  have hq := hm.1
  unfold wp_X11_takeWord
  refine g_yes hg ⟨fun z => absurd z (by decide), fun _ => m_next hB hm (fun v hF h4 => ⟨w.length + 1, ?_⟩)⟩
  have hBv := bt_nf (pf_nf hF) hB
  have st : ∀ m i, i + m = w.length → (∀ j, j < i → pz_at B N (q + j) = w.getD j 0) → wp_X11_takeWord_16 ms_E0 233 o post (m + 1) v (nI i) := by
    intro m
    induction m with
    | zero =>
      intro i hi hh
      have ei : i = w.length := by omega
      subst ei
      unfold wp_X11_takeWord_16 wp_X11_takeWord_48 wp_X11_takeWord_76
      refine q_len hk hl.2 ⟨fun _ => q_len hk hl.2 ⟨fun z => absurd z (nI_nlt (Nat.le_refl _) (by omega)), fun _ => ?_⟩, fun z => absurd (nI_le (Nat.le_refl _) (by omega)) z⟩
      rw [h4, nI_add]
      refine m_byteAt hBv (by omega) ?_
      rw [q_X11_in]
      have hb := at_b (k := q + w.length) hB
      have wiff : ∀ (w : List Nat) (q : Nat), (∀ j, j < w.length → pz_at B N (q + j) = w.getD j 0) → (pz_wd B N w q = true ↔ ¬ (97 ≤ pz_at B N (q + w.length) ∧ pz_at B N (q + w.length) ≤ 122)) := by
        intro w
        induction w with
        | nil =>
          intro q _
          unfold pz_wd
          simp
          omega
        | cons c w ihw =>
          intro q hj
          unfold pz_wd
          have h0 := hj 0 (by simp)
          simp at h0
          rw [Bool.and_eq_true, decide_eq_true_eq, ihw (q + 1) (fun j hj2 => by
            have := hj (j + 1) (by simp; omega)
            rw [show q + 1 + j = q + (j + 1) by omega, this]
            simp)]
          simp only [List.length_cons]
          rw [show q + 1 + w.length = q + (w.length + 1) by omega]
          exact ⟨fun z => z.2, fun z => ⟨h0, z⟩⟩
      have hiff := wiff w q (fun j hj => hh j hj)
      have hin : (97 ≤ mzb (pz_at B N (q + w.length)) ∧ mzb (pz_at B N (q + w.length)) ≤ 122) ↔ (97 ≤ pz_at B N (q + w.length) ∧ pz_at B N (q + w.length) ≤ 122) := by
        unfold mzb
        by_cases c : pz_at B N (q + w.length) < 256
        · rw [if_pos c, show (97 : Int32) = nI 97 from rfl, show (122 : Int32) = nI 122 from rfl, nI_leI (by omega) (by omega), nI_leI (by omega) (by omega)]
        · rw [if_neg c]
          exact ⟨fun z => absurd z.1 (by decide), fun z => by omega⟩
      by_cases c : 97 ≤ pz_at B N (q + w.length) ∧ pz_at B N (q + w.length) ≤ 122
      · rw [if_pos (hin.mpr c)]
        exact ⟨fun z => absurd z (by decide), fun _ => hno (fun z => (hiff.mp z) c) v hF h4⟩
      · rw [if_neg (fun z => c (hin.mp z)), h4, nI_add]
        exact ⟨fun _ => hyes (hiff.mpr c) _ ⟨fun a b z => by rw [I_sI, if_neg z]; exact hF.1 a b z, hF.2⟩ (by rw [I_sI, if_pos ⟨rfl, rfl⟩]), fun z => absurd rfl z⟩
    | succ m ih =>
      intro i hi hh
      have hc := (hk.2 i (by omega)).2
      unfold wp_X11_takeWord_16 wp_X11_takeWord_48 wp_X11_takeWord_76
      rw [nI_1]
      refine q_len hk hl.2 ⟨fun z => absurd z (nI_ge (by omega) (by omega)), fun _ => ?_⟩
      rw [h4, nI_add]
      refine m_byteAt hBv (by omega) (q_chr hk hl.2 (by omega) ⟨fun z => ?_, fun z => ?_⟩)
      · refine ih (i + 1) (by omega) (fun j hj => ?_)
        by_cases c : j = i
        · rw [c]; exact (mzb_eq (by omega)).mp z
        · exact hh j (by omega)
      · refine q_len hk hl.2 ⟨fun _ => hno (fun hw => ?_) v hF h4, fun y => absurd (nI_lt (show i < w.length by omega) (by omega)) y⟩
        exact z ((mzb_eq (by omega)).mpr (wd_at w q hw i (by omega)))
  exact st w.length 0 (by omega) (fun j hj => by omega)
theorem b_takeWord {o : Nat} (hg : ¬ ms_I u 233 5 = 0) (hp : post 0 u) : wp_X11_takeWord ms_E0 u 233 o post := by
  unfold wp_X11_takeWord
  exact g_no hg ⟨fun _ => hp, fun z => absurd rfl z⟩
theorem m_expect {a : Nat} (ha : a < 128) (hB : bt_M u B N) (hm : mp u B N q) (hg : ms_I u 233 5 = 0) (hyes : pz_at B N q = a → ∀ u', pf u u' → ms_I u' 233 4 = nI (q + 1) → pv u') (hno : pz_at B N q ≠ a → ∀ u', nf u u' → ms_I u' 233 5 = -2 → ms_I u' 233 6 = nI q → pv u') : wp_X11_expect ms_E0 u 233 (nI a) pv := by
  unfold wp_X11_expect wp_X11_expect_39
  refine g_yes hg ⟨fun z => absurd z (by decide), fun _ => m_next hB hm (fun v hF h4 => ⟨fun z => ?_, fun z => ?_⟩)⟩
  · rw [h4, nI_1]
    exact hyes ((mzb_eq (by omega)).mp z) _ ⟨fun a b y => by rw [I_sI, if_neg y]; exact hF.1 a b y, hF.2⟩ (by rw [I_sI, if_pos ⟨rfl, rfl⟩])
  · have hg2 : ms_I v 233 5 = 0 := by rw [hF.1 233 5 (by omega)]; exact hg
    rw [h4]
    refine r_yes hg2 (hno (fun y => z ((mzb_eq (by omega)).mpr y)) _ (nf_w (nf_w (pf_nf hF) (by omega)) (by omega)) ?_ ?_)
    · rw [I_sI, if_neg (by omega), I_sI, if_pos ⟨rfl, rfl⟩]
    · rw [I_sI, if_pos ⟨rfl, rfl⟩]
theorem b_expect (hg : ¬ ms_I u 233 5 = 0) (hp : pv u) : wp_X11_expect ms_E0 u 233 a1 pv := by
  unfold wp_X11_expect
  exact g_no hg ⟨fun _ => hp, fun z => absurd rfl z⟩
theorem b_number (hg : ¬ ms_I u 233 5 = 0) (hp : post 0 u) : wp_X11_number ms_E0 u 233 a1 a2 post := by
  unfold wp_X11_number
  exact g_no hg ⟨fun _ => hp, fun z => absurd rfl z⟩
theorem dg_i {c : Nat} (hc : c ≤ 256) : ((48 : Int32) ≤ mzb c ∧ mzb c ≤ 57) ↔ (48 ≤ c ∧ c ≤ 57) := by
  unfold mzb
  by_cases h : c < 256
  · rw [if_pos h, show (48 : Int32) = nI 48 from rfl, show (57 : Int32) = nI 57 from rfl, nI_leI (by omega) (by omega), nI_leI (by omega) (by omega)]
  · rw [if_neg h]
    exact ⟨fun z => absurd z.1 (by decide), fun z => by omega⟩
theorem m_isDigit {c : Nat} (hc : c ≤ 256) (hp : post (if 48 ≤ c ∧ c ≤ 57 then 1 else 0) u) : wp_X11_isDigit ms_E0 u (mzb c) post := by
  unfold wp_X11_isDigit
  rw [q_X11_in]
  by_cases h : 48 ≤ c ∧ c ≤ 57
  · rw [if_pos h] at hp
    rw [if_pos ((dg_i hc).mpr h)]
    exact ⟨Or.inr rfl, hp⟩
  · rw [if_neg h] at hp
    rw [if_neg (fun z => h ((dg_i hc).mp z))]
    exact ⟨Or.inl rfl, hp⟩
theorem g6_w {u0 u : ms_St} {a b : Nat} {v : Int32} (h : ms_I u 233 5 = 0 ∧ ms_I u 233 6 = ms_I u0 233 6) (hb : ¬ (a = 233 ∧ (b = 5 ∨ b = 6))) : ms_I (ms_sI u a b v) 233 5 = 0 ∧ ms_I (ms_sI u a b v) 233 6 = ms_I u0 233 6 := by
  rw [I_sI, if_neg (by omega), I_sI, if_neg (by omega)]; exact h
theorem g6_pf {u0 u u' : ms_St} (h : ms_I u 233 5 = 0 ∧ ms_I u 233 6 = ms_I u0 233 6) (hp : pf u u') : ms_I u' 233 5 = 0 ∧ ms_I u' 233 6 = ms_I u0 233 6 := by
  rw [hp.1 233 5 (by omega), hp.1 233 6 (by omega)]; exact h
theorem g6_fr {u0 u u' : ms_St} (h : ms_I u 233 5 = 0 ∧ ms_I u 233 6 = ms_I u0 233 6) (hp : fr 236 u u') : ms_I u' 233 5 = 0 ∧ ms_I u' 233 6 = ms_I u0 233 6 := by
  rw [hp.1 233 5 (by omega), hp.1 233 6 (by omega)]; exact h
theorem m_number (hB : bt_M u B N) (hm : mp u B N q) (hg : ms_I u 233 5 = 0) (hlo : lo ≤ 100000) (hhx : hx ≤ 100000) (e1 : a1 = nI lo) (e2 : a2 = nI hx - 1) (hno : ∀ c, pz_n B N q lo hx = Sum.inl (c, q) → ∀ r u', nf u u' → ms_I u' 233 5 = er c → ms_I u' 233 6 = nI q → post r u') (hok : ∀ v q', pz_n B N q lo hx = Sum.inr (v, q') → ∀ u', nf u u' → (ms_I u' 233 5 = 0 ∧ ms_I u' 233 6 = ms_I u 233 6) → mp u' B N q' → ms_I u' 233 12 = nI q → post (nI v) u') : wp_X11_number ms_E0 u 233 a1 a2 post := by
  subst e1
  subst e2
  have hN := hB.1
  have hq := hm.1
  unfold wp_X11_number
  refine g_yes hg ⟨fun z => absurd z (by decide), fun _ => m_next hB hm (fun v hF h4 => m_isDigit (at_b hB) ?_)⟩
  have hg2 : ms_I v 233 5 = 0 := by rw [hF.1 233 5 (by omega)]; exact hg
  by_cases c : 48 ≤ pz_at B N q ∧ pz_at B N q ≤ 57
  · rw [if_pos c, h4]
    refine ⟨fun z => absurd z (by decide), fun _ => ⟨N - q + 1, ?_⟩⟩
    have st : ∀ m p x y w, N - p = m → p ≤ N → nf u w → ms_I w 233 4 = nI p → (ms_I w 233 5 = 0 ∧ ms_I w 233 6 = ms_I u 233 6) → ms_I w 233 12 = nI q → rv x y → pz_nd B N p x = pz_nd B N q 0 → wp_X11_number_41 ms_E0 233 (nI lo) (nI hx - 1) post (m + 1) w (nI y) := by
      have fin : ∀ p x y w, p ≤ N → nf u w → ms_I w 233 4 = nI p → (ms_I w 233 5 = 0 ∧ ms_I w 233 6 = ms_I u 233 6) → ms_I w 233 12 = nI q → rv x y → pz_nd B N q 0 = (p, x) → wp_X11_in ms_E0 w (nI y) (nI lo) (nI hx - 1) (fun r93 u93 => (r93 = 0 → wp_X11_report ms_E0 u93 233 (-3) (ms_I u93 233 12) (fun u106 => wp_X11_number_109 ms_E0 233 (nI lo) (nI hx - 1) post u106 (nI y))) ∧ (¬ r93 = 0 → wp_X11_number_109 ms_E0 233 (nI lo) (nI hx - 1) post u93 (nI y))) := by
        intro p x y w hp hFw h4 h5 h12 hr he
        have hv : x < 100000 ∨ 100000 ≤ x := by omega
        have hy6 : y ≤ 1000000 := by
          rcases hv with z | z
          · have := hr.1 z; omega
          · exact (hr.2 z).2
        unfold wp_X11_number_109
        rw [q_X11_in, h12]
        have hin : (nI lo ≤ nI y ∧ nI y ≤ nI hx - 1) ↔ (lo ≤ y ∧ y < hx) := by rw [le_pred (by omega), nI_leI (by omega) (by omega), nI_ltI (by omega) (by omega)]
        by_cases c2 : lo ≤ y ∧ y < hx
        · rw [if_pos (hin.mpr c2)]
          have hxy : x = y := by
            rcases hv with z | z
            · exact (hr.1 z).symm
            · have := (hr.2 z).1; omega
          refine ⟨fun z => absurd z (by decide), fun _ => hok y (pz_s B N p) ?_ w hFw h5 ⟨s_le hp, p, hp, h4, rfl⟩ h12⟩
          unfold pz_n
          rw [if_pos c, he, if_pos (by dsimp only; omega), hxy]
        · rw [if_neg (fun z => c2 (hin.mp z))]
          refine ⟨fun _ => r_yes h5.1 (hno 3 ?_ _ _ (nf_w (nf_w hFw (by omega)) (by omega)) ?_ ?_), fun z => absurd rfl z⟩
          · unfold pz_n
            rw [if_pos c, he, if_neg]
            dsimp only
            rcases hv with z | z
            · have := hr.1 z; omega
            · have := (hr.2 z).1; omega
          · rw [I_sI, if_neg (by omega), I_sI, if_pos ⟨rfl, rfl⟩]; rfl
          · rw [I_sI, if_pos ⟨rfl, rfl⟩]
      intro m
      induction m with
      | zero =>
        intro p x y w hm hpN hFw h4 h5 h12 hr he
        have hBw := bt_nf hFw hB
        have cd : ¬ (48 ≤ pz_at B N p ∧ pz_at B N p ≤ 57) := by rw [at_ge (by omega)]; omega
        rw [nd_stop cd] at he
        unfold wp_X11_number_41
        rw [h4]
        refine m_byteAt hBw (by omega) (m_isDigit (at_b hBw) ?_)
        rw [if_neg cd]
        exact ⟨fun _ => fin p x y w hpN hFw h4 h5 h12 hr he.symm, fun z => absurd rfl z⟩
      | succ m ih =>
        intro p x y w hm hpN hFw h4 h5 h12 hr he
        have hBw := bt_nf hFw hB
        unfold wp_X11_number_41
        rw [h4]
        refine m_byteAt hBw (by omega) (m_isDigit (at_b hBw) ?_)
        by_cases cd : 48 ≤ pz_at B N p ∧ pz_at B N p ≤ 57
        · rw [if_pos cd, h4]
          refine ⟨fun z => absurd z (by decide), fun _ => m_byteAt hBw (by omega) ?_⟩
          have hv : x < 100000 ∨ 100000 ≤ x := by omega
          have hy6 : y ≤ 1000000 := by
            rcases hv with z | z
            · have := hr.1 z; omega
            · exact (hr.2 z).2
          have ez : (10 : Int32) * nI y + mzb (pz_at B N p) - 48 = nI (10 * y + (pz_at B N p - 48)) := by
            unfold mzb
            rw [if_pos (by omega), show (10 : Int32) = nI 10 from rfl, show (48 : Int32) = nI 48 from rfl, pk_mul, nI_add, pk_sub (by omega), Nat.add_sub_assoc (by omega)]
          rw [ez, q_X11_min, show (1000000 : Int32) = nI 1000000 from rfl, nI_min (by omega) (by omega), h4, nI_1]
          refine ih (p + 1) (pz_cv x (pz_at B N p - 48)) _ _ (by omega) (by omega) (nf_w hFw (by omega)) ?_ ?_ ?_ ?_ ?_
          · rw [I_sI, if_pos ⟨rfl, rfl⟩]
          · exact g6_w h5 (by omega)
          · rw [I_sI, if_neg (by omega)]; exact h12
          · unfold pz_cv
            rcases hv with z | z
            · have e := hr.1 z
              by_cases z2 : 10 * x + (pz_at B N p - 48) < 100000
              · rw [if_pos ⟨z, z2⟩]
                exact ⟨fun _ => by rw [e]; omega, fun z3 => by omega⟩
              · rw [if_neg (fun z3 => z2 z3.2)]
                exact ⟨fun z3 => by omega, fun _ => by rw [e]; omega⟩
            · have e := (hr.2 z).1
              rw [if_neg (by omega)]
              exact ⟨fun z3 => by omega, fun _ => by omega⟩
          · rw [← nd_step cd]; exact he
        · rw [if_neg cd]
          rw [nd_stop cd] at he
          exact ⟨fun _ => fin p x y w hpN hFw h4 h5 h12 hr he.symm, fun z => absurd rfl z⟩
    refine st (N - q) q 0 0 _ rfl hq (nf_w (pf_nf hF) (by omega)) ?_ ?_ ?_ ⟨fun _ => rfl, fun z => by omega⟩ rfl
    · rw [I_sI, if_neg (by omega)]; exact h4
    · exact g6_w ⟨hg2, hF.1 233 6 (by omega)⟩ (by omega)
    · rw [I_sI, if_pos ⟨rfl, rfl⟩]
  · rw [if_neg c, h4]
    refine ⟨fun _ => r_yes hg2 (hno 2 (by unfold pz_n; rw [if_neg c]) _ _ (nf_w (nf_w (pf_nf hF) (by omega)) (by omega)) ?_ ?_), fun z => absurd rfl z⟩
    · rw [I_sI, if_neg (by omega), I_sI, if_pos ⟨rfl, rfl⟩]; rfl
    · rw [I_sI, if_pos ⟨rfl, rfl⟩]
end MR
