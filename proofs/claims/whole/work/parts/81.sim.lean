/-! ===== bits ===== -/
theorem bt_s : ∀ h, h < 31 → ((nI h &&& 31).toBitVec.smod 32).toNat = h := by decide +kernel
theorem bt_at {s h : Nat} (hs : s < 2 ^ 31) (hh : h < 31) : ((nI s >>> (nI h &&& 31)) &&& 1) = nI (s / 2 ^ h % 2) := by
  have h2 : s / 2 ^ h ≤ s := Nat.div_le_self _ _
  rw [pk_shrN hs _ h (bt_s h hh), pk_andN (by omega) 1 (by decide)]
theorem bt_tb (s h : Nat) : s / 2 ^ h % 2 = if s.testBit h then 1 else 0 := by
  have h2 := Nat.mod_two_eq_zero_or_one (s / 2 ^ h)
  rw [Nat.testBit_eq_decide_div_mod_eq]
  rcases h2 with q | q <;> simp [q]
theorem bt_1 {h : Nat} (hh : h < 31) : (1 : Int32) <<< (nI h &&& 31) = nI (2 ^ h) := by
  have h2 : 2 ^ h < 2 ^ 31 := Nat.pow_lt_pow_right (by decide) hh
  have := pk_shlN (n := 1) (nI h &&& 31) h (bt_s h hh) (by omega)
  rw [Nat.one_mul] at this
  exact this
theorem bt_or (a b : Nat) : nI a ||| nI b = nI (a ||| b) := by
  apply Int32.toBitVec_inj.1
  show BitVec.ofNat 32 a ||| BitVec.ofNat 32 b = BitVec.ofNat 32 (a ||| b)
  apply BitVec.eq_of_getLsbD_eq
  intro i hi
  simp [hi]
theorem bo_lt {s h n : Nat} (hs : s < 2 ^ n) (hh : h < n) : s ||| 2 ^ h < 2 ^ n := Nat.or_lt_two_pow hs (Nat.pow_lt_pow_right (by decide) hh)
/-- a test of a bit, in both writings -/
theorem bt_1A {s h : Nat} {A B : Prop} (hs : s < 2 ^ 31) (hh : h < 31) (f : s.testBit h = true → A) (g : s.testBit h = false → B) : (((nI s >>> (nI h &&& 31)) &&& 1) = 1 → A) ∧ (¬ ((nI s >>> (nI h &&& 31)) &&& 1) = 1 → B) := by
  rw [bt_at hs hh, bt_tb]
  by_cases q : s.testBit h = true
  · rw [if_pos q]; exact ⟨fun _ => f q, fun e => absurd rfl e⟩
  · rw [if_neg q]; exact ⟨fun e => absurd e (by decide), fun _ => g (by simpa using q)⟩
theorem bt_0A {s h : Nat} {A B : Prop} (hs : s < 2 ^ 31) (hh : h < 31) (f : s.testBit h = false → A) (g : s.testBit h = true → B) : (((nI s >>> (nI h &&& 31)) &&& 1) = 0 → A) ∧ (¬ ((nI s >>> (nI h &&& 31)) &&& 1) = 0 → B) := by
  rw [bt_at hs hh, bt_tb]
  by_cases q : s.testBit h = true
  · rw [if_pos q]; exact ⟨fun e => absurd e (by decide), fun _ => g q⟩
  · rw [if_neg q]; exact ⟨fun _ => f (by simpa using q), fun e => absurd rfl e⟩
theorem q_contains {E : ms_En} {u : ms_St} {s h : Nat} {post : Int32 → ms_St → Prop} (hs : s < 2 ^ 31) (hh : h < 31) (hp : post (if s.testBit h then 1 else 0) u) : wp_X10_contains E u (nI s) (nI h) post := by
  unfold wp_X10_contains wp_X10_contains_13
  refine bt_0A hs hh (fun q => ?_) (fun q => ?_)
  · rw [q] at hp; exact ⟨Or.inl rfl, hp⟩
  · rw [q] at hp; exact ⟨Or.inr rfl, hp⟩
theorem le_sub {a t g : Nat} {A B : Prop} (ha : a < 2 ^ 30) (ht : t < 2 ^ 30) (hg : g < 2 ^ 30) (f : a + g ≤ t → A) (k : t < a + g → B) : (nI a ≤ nI t - nI g → A) ∧ (¬ nI a ≤ nI t - nI g → B) := by
  rw [Int32.le_iff_toInt_le, pk_sub_toInt ht hg, nI_toInt (by omega)]
  exact ⟨fun q => f (by omega), fun q => k (by omega)⟩
/-! ===== the simulation: what both keep ===== -/
def sm_pl (p : Nat) : Int32 := if p = 0 then NO else nI (p - 1)
theorem pl_0 : sm_pl 0 = NO := rfl
theorem pl_s (p : Nat) : sm_pl (p + 1) = nI p := rfl
theorem pl_lt {p : Nat} {A B : Prop} (hp : p < 2 ^ 31) (f : p = 0 → A) (g : ∀ j, p = j + 1 → B) : (sm_pl p < 0 → A) ∧ (¬ sm_pl p < 0 → B) := by
  cases p with
  | zero => exact ⟨fun _ => f rfl, fun q => absurd NO_lt q⟩
  | succ j => exact ⟨fun q => absurd q (nI_pos (by omega)), fun _ => g j rfl⟩
theorem pl_le {p : Nat} {A B : Prop} (hp : p < 2 ^ 31) (f : ∀ j, p = j + 1 → A) (g : p = 0 → B) : (0 ≤ sm_pl p → A) ∧ (¬ 0 ≤ sm_pl p → B) := by
  cases p with
  | zero => exact ⟨fun q => absurd q (by decide), fun _ => g rfl⟩
  | succ j => exact ⟨fun _ => f j rfl, fun q => absurd (nI_pos' (by omega)) q⟩
theorem pl_NO {p : Nat} {A B : Prop} (hp : p < 2 ^ 31) (f : p = 0 → A) (g : ∀ j, p = j + 1 → B) : (sm_pl p = -1 → A) ∧ (¬ sm_pl p = -1 → B) := by
  cases p with
  | zero => exact ⟨fun _ => f rfl, fun q => absurd rfl q⟩
  | succ j => exact ⟨fun q => absurd q (NO_ne (by omega)), fun _ => g j rfl⟩
theorem pl_m1 (n : Nat) : nI n - 1 = sm_pl n := by
  cases n with
  | zero => rfl
  | succ n => exact nI_pred n
theorem pl_a1 (n : Nat) : nI n + -1 = sm_pl n := by
  cases n with
  | zero => rfl
  | succ n => exact pk_m1 n
def sm_up (S : Nat → Nat → Nat) (w t p r a h c m s : Nat) : Nat → Nat → Nat := fun i x => if i = 0 ∧ x = w then t else if i = 1 ∧ x = w then p else if i = 2 ∧ x = w then S 2 w + 1 else if i = 3 ∧ x = w * 12 + S 2 w then r else if i = 4 ∧ x = w * 12 + S 2 w then a else if i = 5 ∧ x = h then c else if i = 6 ∧ x = h then m else if i = 7 ∧ x = 0 then s else S i x
section SU
variable {S : Nat → Nat → Nat} {w t p r a h c m s x : Nat}
theorem up0 : sm_up S w t p r a h c m s 0 x = if x = w then t else S 0 x := by simp [sm_up]
theorem up1 : sm_up S w t p r a h c m s 1 x = if x = w then p else S 1 x := by simp [sm_up]
theorem up2 : sm_up S w t p r a h c m s 2 x = if x = w then S 2 w + 1 else S 2 x := by simp [sm_up]
theorem up3 : sm_up S w t p r a h c m s 3 x = if x = w * 12 + S 2 w then r else S 3 x := by simp [sm_up]
theorem up4 : sm_up S w t p r a h c m s 4 x = if x = w * 12 + S 2 w then a else S 4 x := by simp [sm_up]
theorem up5 : sm_up S w t p r a h c m s 5 x = if x = h then c else S 5 x := by simp [sm_up]
theorem up6 : sm_up S w t p r a h c m s 6 x = if x = h then m else S 6 x := by simp [sm_up]
theorem up7 : sm_up S w t p r a h c m s 7 0 = s := by simp [sm_up]
end SU
section SG
variable {S : Nat → Nat → Nat} {D : Nat → Nat} {l : List ms_Op} {w : Nat}
theorem go_far (h1 : ¬ sp_wy D S w (sp_nh D S w) < 1000000) : sp_go D l S w = sm_up S w (S 0 w) (S 1 w) 4 (S 0 w) (sp_nh D S w) (S 5 (sp_nh D S w)) (S 6 (sp_nh D S w)) (S 7 0) := by
  unfold sp_go
  rw [if_neg h1]
  generalize sp_nh D S w = h
  funext i x
  simp only [u2_at, sm_up]
  repeat' split
  all_goals first | rfl | omega | (simp_all; done)
theorem go_done (h1 : sp_wy D S w (sp_nh D S w) < 1000000) (h2 : (S 7 0).testBit (sp_nh D S w) = true) : sp_go D l S w = sm_up S w (sp_na D S w) (sp_nh D S w + 1) 2 (sp_na D S w) (sp_nh D S w) (S 5 (sp_nh D S w)) (S 6 (sp_nh D S w)) (S 7 0) := by
  unfold sp_go
  rw [if_pos h1, if_pos h2]
  generalize sp_nh D S w = h
  generalize sp_na D S w = t
  funext i x
  simp only [u2_at, sm_up]
  repeat' split
  all_goals first | rfl | omega | (simp_all; done)
theorem go_ref (h1 : sp_wy D S w (sp_nh D S w) < 1000000) (h2 : (S 7 0).testBit (sp_nh D S w) = false) (h3 : S 5 (sp_nh D S w) = 2 ∨ (S 5 (sp_nh D S w) = 1 ∧ sp_na D S w < S 6 (sp_nh D S w) + D 5)) : sp_go D l S w = sm_up S w (sp_na D S w) (sp_nh D S w + 1) 3 (sp_na D S w) (sp_nh D S w) (S 5 (sp_nh D S w)) (S 6 (sp_nh D S w)) (S 7 0) := by
  unfold sp_go
  rw [if_pos h1, if_neg (by rw [h2]; decide), if_pos h3]
  generalize sp_nh D S w = h
  generalize sp_na D S w = t
  funext i x
  simp only [u2_at, sm_up]
  repeat' split
  all_goals first | rfl | omega | (simp_all; done)
theorem go_ans (h1 : sp_wy D S w (sp_nh D S w) < 1000000) (h2 : (S 7 0).testBit (sp_nh D S w) = false) (h3 : ¬ (S 5 (sp_nh D S w) = 2 ∨ (S 5 (sp_nh D S w) = 1 ∧ sp_na D S w < S 6 (sp_nh D S w) + D 5))) (h4 : D (56 + 7 * sp_nh D S w + 4) ≤ sp_na D S w ∧ sp_na D S w < D (56 + 7 * sp_nh D S w + 5)) : sp_go D l S w = sm_up S w (sp_na D S w + sp_vis D l (sp_nh D S w) (D (56 + 7 * sp_nh D S w + 6)) (S 5 (sp_nh D S w) + 1)) (sp_nh D S w + 1) 0 (sp_na D S w) (sp_nh D S w) (S 5 (sp_nh D S w) + 1) (sp_na D S w) (S 7 0 ||| 2 ^ sp_nh D S w) := by
  unfold sp_go
  rw [if_pos h1, if_neg (by rw [h2]; decide), if_neg h3, if_pos h4]
  generalize sp_vis D l (sp_nh D S w) (D (56 + 7 * sp_nh D S w + 6)) (S 5 (sp_nh D S w) + 1) = v
  generalize sp_nh D S w = h
  generalize sp_na D S w = t
  funext i x
  simp only [u2_at, sm_up]
  repeat' split
  all_goals first | rfl | omega | (simp_all; done)
theorem go_un (h1 : sp_wy D S w (sp_nh D S w) < 1000000) (h2 : (S 7 0).testBit (sp_nh D S w) = false) (h3 : ¬ (S 5 (sp_nh D S w) = 2 ∨ (S 5 (sp_nh D S w) = 1 ∧ sp_na D S w < S 6 (sp_nh D S w) + D 5))) (h4 : ¬ (D (56 + 7 * sp_nh D S w + 4) ≤ sp_na D S w ∧ sp_na D S w < D (56 + 7 * sp_nh D S w + 5))) : sp_go D l S w = sm_up S w (sp_na D S w + 1) (sp_nh D S w + 1) 1 (sp_na D S w) (sp_nh D S w) (S 5 (sp_nh D S w) + 1) (sp_na D S w) (S 7 0) := by
  unfold sp_go
  rw [if_pos h1, if_neg (by rw [h2]; decide), if_neg h3, if_neg h4]
  generalize sp_nh D S w = h
  generalize sp_na D S w = t
  funext i x
  simp only [u2_at, sm_up]
  repeat' split
  all_goals first | rfl | omega | (simp_all; done)
/-- what a state of the simulation can be -/
def sm_V (D : Nat → Nat) (S : Nat → Nat → Nat) : Prop := (∀ w, w < D 3 → S 2 w ≤ D (168 + 15 * w + 2) ∧ S 0 w ≤ 1440 + 1000240 * S 2 w ∧ S 1 w ≤ D 2) ∧ (∀ h, S 5 h ≤ 2 ∧ S 6 h ≤ 20000000) ∧ S 7 0 < 2 ^ 16
theorem sm_V0 {l : List ms_Op} (hV : sp_V D l) : sm_V D (sp_S0 D) := by
  refine ⟨fun w hw => ?_, fun h => ?_, ?_⟩
  · have := (hV.2.2.2.1 w hw).2.1
    simp [sp_S0]
    exact this
  · simp [sp_S0]
  · simp [sp_S0]
theorem sm_V_up (h : sm_V D S) {t p r a g c m s : Nat} (hd : S 2 w < D (168 + 15 * w + 2)) (ht : t ≤ 1440 + 1000240 * (S 2 w + 1)) (hp : p ≤ D 2) (hc : c ≤ 2) (hm : m ≤ 20000000) (hs : s < 2 ^ 16) : sm_V D (sm_up S w t p r a g c m s) := by
  refine ⟨fun x hx => ?_, fun x => ?_, ?_⟩
  · rw [up0, up1, up2]
    by_cases q : x = w
    · subst q
      rw [if_pos rfl, if_pos rfl, if_pos rfl]
      exact ⟨hd, ht, hp⟩
    · rw [if_neg q, if_neg q, if_neg q]
      exact h.1 x hx
  · rw [up5, up6]
    have := h.2.1 x
    constructor
    · split <;> omega
    · split <;> omega
  · rw [up7]; exact hs
theorem nh_lt {l : List ms_Op} (hV : sp_V D l) (hw : w < D 3) (hd : S 2 w < D (168 + 15 * w + 2)) : sp_nh D S w < D 2 := (hV.2.2.2.1 w hw).2.2.2 _ hd
theorem wy_le {l : List ms_Op} (hV : sp_V D l) (h : sm_V D S) (hw : w < D 3) {g : Nat} (hg : g < D 2) : sp_wy D S w g < 2 ^ 30 := by
  have a := (h.1 w hw).2.2
  have b := fc_lt (c := D (168 + 15 * w)) hV hg
  unfold sp_wy
  split
  · omega
  · rename_i q
    have := bt_lt hV (g := S 1 w - 1) (by omega) hg
    omega
theorem na_le (h : sm_V D S) (hw : w < D 3) : sp_na D S w ≤ 1440 + 1000240 * S 2 w + 1000000 := by
  have a := (h.1 w hw).2.1
  unfold sp_na
  split <;> omega
theorem na_lt {l : List ms_Op} (hV : sp_V D l) (h : sm_V D S) (hw : w < D 3) : sp_na D S w ≤ 14000000 ∧ S 2 w ≤ 12 ∧ S 0 w ≤ 14000000 := by
  have a := na_le h hw
  have b := h.1 w hw
  have c := (hV.2.2.2.1 w hw).2.2.1
  omega
theorem ar_1 {t x v : Nat} (h : t ≤ 1440 + 1000240 * x + 1000000) (hv : v ≤ 240) : t + v ≤ 1440 + 1000240 * (x + 1) := by omega
theorem sm_V_go {l : List ms_Op} (hV : sp_V D l) (h : sm_V D S) (hw : w < D 3) (hd : S 2 w < D (168 + 15 * w + 2)) : sm_V D (sp_go D l S w) := by
  have a := h.1 w hw
  have b := h.2.1 (sp_nh D S w)
  have c := na_le h hw
  have d := nh_lt hV hw hd
  have e := (na_lt hV h hw).1
  have c2 := hV.1.2.2.1
  have t1 : sp_na D S w ≤ 1440 + 1000240 * (S 2 w + 1) := ar_1 (v := 0) c (by decide)
  have m1 : sp_na D S w ≤ 20000000 := Nat.le_trans e (by decide)
  have p1 : sp_nh D S w + 1 ≤ D 2 := d
  by_cases h1 : sp_wy D S w (sp_nh D S w) < 1000000
  · by_cases h2 : (S 7 0).testBit (sp_nh D S w) = true
    · rw [go_done h1 h2]
      exact sm_V_up h hd t1 p1 b.1 b.2 h.2.2
    · have h2 : (S 7 0).testBit (sp_nh D S w) = false := by simpa using h2
      by_cases h3 : S 5 (sp_nh D S w) = 2 ∨ (S 5 (sp_nh D S w) = 1 ∧ sp_na D S w < S 6 (sp_nh D S w) + D 5)
      · rw [go_ref h1 h2 h3]
        exact sm_V_up h hd t1 p1 b.1 b.2 h.2.2
      · by_cases h4 : D (56 + 7 * sp_nh D S w + 4) ≤ sp_na D S w ∧ sp_na D S w < D (56 + 7 * sp_nh D S w + 5)
        · rw [go_ans h1 h2 h3 h4]
          have v := vis_le (D := D) (l := l) (h := sp_nh D S w) (g := D (56 + 7 * sp_nh D S w + 6)) (c := S 5 (sp_nh D S w) + 1)
          exact sm_V_up h hd (ar_1 c v.2) p1 (by omega) m1 (bo_lt h.2.2 (Nat.lt_of_lt_of_le d c2))
        · rw [go_un h1 h2 h3 h4]
          exact sm_V_up h hd (ar_1 c (by decide)) p1 (by omega) m1 h.2.2
  · rw [go_far h1]
    exact sm_V_up h hd (by omega) a.2.2 b.1 b.2 h.2.2
/-- the memory shows the state -/
def sm_R (u : ms_St) (cT cP cD cR cA cC cL cO cK : Nat) (D : Nat → Nat) (S : Nat → Nat → Nat) : Prop :=
  (∀ w, w < D 3 → ms_I u cT w = nI (S 0 w) ∧ ms_I u cP w = sm_pl (S 1 w) ∧ ms_I u cD w = nI (S 2 w) ∧ ∀ k, k < S 2 w → ms_I u cR (w * 12 + k) = nI (S 3 (w * 12 + k)) ∧ ms_I u cA (w * 12 + k) = nI (S 4 (w * 12 + k)))
  ∧ (∀ h, h < 16 → ms_I u cC h = nI (S 5 h) ∧ (1 ≤ S 5 h → ms_I u cL h = nI (S 6 h))) ∧ ms_I u cO cK = nI (S 7 0)
theorem sm_step {l : List ms_Op} {u u' : ms_St} {cT cP cD cR cA cC cL cO cK : Nat} {t p r a h c m s : Nat} (hV : sp_V D l) (hS : sm_V D S) (hR : sm_R u cT cP cD cR cA cC cL cO cK D S) (hw : w < D 3) (hd : S 2 w < D (168 + 15 * w + 2))
    (e0 : ms_I u' cT w = nI t) (n0 : ∀ x, x ≠ w → ms_I u' cT x = ms_I u cT x) (e1 : ms_I u' cP w = sm_pl p) (n1 : ∀ x, x ≠ w → ms_I u' cP x = ms_I u cP x) (e2 : ms_I u' cD w = nI (S 2 w + 1)) (n2 : ∀ x, x ≠ w → ms_I u' cD x = ms_I u cD x)
    (e3 : ms_I u' cR (w * 12 + S 2 w) = nI r) (n3 : ∀ x, x ≠ w * 12 + S 2 w → ms_I u' cR x = ms_I u cR x) (e4 : ms_I u' cA (w * 12 + S 2 w) = nI a) (n4 : ∀ x, x ≠ w * 12 + S 2 w → ms_I u' cA x = ms_I u cA x)
    (e5 : ms_I u' cC h = nI c) (n5 : ∀ x, x ≠ h → ms_I u' cC x = ms_I u cC x) (e6 : 1 ≤ c → ms_I u' cL h = nI m) (n6 : ∀ x, x ≠ h → ms_I u' cL x = ms_I u cL x) (e7 : ms_I u' cO cK = nI s) : sm_R u' cT cP cD cR cA cC cL cO cK D (sm_up S w t p r a h c m s) := by
  have l1 := (hV.2.2.2.1 w hw).2.2.1
  refine ⟨fun x hx => ?_, fun x hx => ?_, by rw [up7]; exact e7⟩
  · have l2 := (hV.2.2.2.1 x hx).2.2.1
    have l3 := (hS.1 x hx).1
    have g := hR.1 x hx
    simp only [up0, up1, up2, up3, up4]
    by_cases q : x = w
    · subst q
      rw [if_pos rfl, if_pos rfl, if_pos rfl]
      refine ⟨e0, e1, e2, fun k hk => ?_⟩
      by_cases q2 : k = S 2 x
      · subst q2
        rw [if_pos rfl, if_pos rfl]
        exact ⟨e3, e4⟩
      · rw [if_neg (by omega), if_neg (by omega), n3 _ (by omega), n4 _ (by omega)]
        exact g.2.2.2 k (by omega)
    · rw [if_neg q, if_neg q, if_neg q, n0 x q, n1 x q, n2 x q]
      refine ⟨g.1, g.2.1, g.2.2.1, fun k hk => ?_⟩
      rw [if_neg (by omega), if_neg (by omega), n3 _ (by omega), n4 _ (by omega)]
      exact g.2.2.2 k hk
  · have g := hR.2.1 x hx
    rw [up5, up6]
    by_cases q : x = h
    · subst q
      rw [if_pos rfl, if_pos rfl]
      exact ⟨e5, e6⟩
    · rw [if_neg q, if_neg q, n5 x q, n6 x q]
      exact g
/-! who is next -/
def nx_P (D : Nat → Nat) (S : Nat → Nat → Nat) (lo hi r : Nat) : Prop := (r = 0 ∧ ∀ j, lo ≤ j → j < hi → ¬ S 2 j < D (168 + 15 * j + 2)) ∨ (∃ j, r = j + 1 ∧ lo ≤ j ∧ j < hi ∧ S 2 j < D (168 + 15 * j + 2) ∧ ∀ i, lo ≤ i → i < hi → S 2 i < D (168 + 15 * i + 2) → sp_na D S j ≤ sp_na D S i ∧ (i < j → sp_na D S j < sp_na D S i))
theorem nx_un {lo hi r r' : Nat} (h : nx_P D S lo hi r) (h' : nx_P D S lo hi r') : r = r' := by
  rcases h with ⟨h1, h2⟩ | ⟨j, h1, h2, h3, h4, h5⟩
  · rcases h' with ⟨g1, g2⟩ | ⟨i, g1, g2, g3, g4, g5⟩
    · omega
    · exact absurd g4 (h2 i g2 g3)
  · rcases h' with ⟨g1, g2⟩ | ⟨i, g1, g2, g3, g4, g5⟩
    · exact absurd h4 (g2 j h2 h3)
    · have a := h5 i g2 g3 g4
      have b := g5 j h2 h3 h4
      omega
theorem nx_up : ∀ n, nx_P D S 0 n (sp_nx D S n)
  | 0 => Or.inl ⟨rfl, fun j _ h => absurd h (by omega)⟩
  | n + 1 => by
    unfold sp_nx
    by_cases q : S 2 n < D (168 + 15 * n + 2) ∧ (sp_nx D S n = 0 ∨ sp_na D S n < sp_na D S (sp_nx D S n - 1))
    · rw [if_pos q]
      refine Or.inr ⟨n, rfl, by omega, by omega, q.1, fun i _ hi ha => ?_⟩
      rcases (show i = n ∨ i < n by omega) with e | e
      · subst e; omega
      · rcases nx_up n with ⟨h1, h2⟩ | ⟨j, h1, h2, h3, h4, h5⟩
        · exact absurd ha (h2 i (by omega) e)
        · have := (h5 i (by omega) e ha).1
          rw [h1, Nat.add_sub_cancel] at q
          omega
    · rw [if_neg q]
      rcases nx_up n with ⟨h1, h2⟩ | ⟨j, h1, h2, h3, h4, h5⟩
      · refine Or.inl ⟨h1, fun j _ hj => ?_⟩
        rcases (show j = n ∨ j < n by omega) with e | e
        · subst e; exact fun a => q ⟨a, Or.inl h1⟩
        · exact h2 j (by omega) e
      · refine Or.inr ⟨j, h1, h2, by omega, h4, fun i _ hi ha => ?_⟩
        rcases (show i = n ∨ i < n by omega) with e | e
        · subst e
          rw [h1, Nat.add_sub_cancel] at q
          have : ¬ sp_na D S i < sp_na D S j := fun a => q ⟨ha, Or.inr a⟩
          omega
        · exact h5 i (by omega) e ha
theorem nx_le : ∀ n, sp_nx D S n ≤ n := fun n => by
  rcases nx_up (D := D) (S := S) n with ⟨h1, _⟩ | ⟨j, h1, _, h3, _⟩ <;> omega
end SG
