/-! ===== changes of a town ===== -/
def sp_u (D : Nat → Nat) (k v : Nat) : Nat → Nat := fun x => if x = k then v else D x
theorem u_at {D : Nat → Nat} {k v x : Nat} : sp_u D k v x = if x = k then v else D x := rfl
theorem vis_eq {D D' : Nat → Nat} {l : List ms_Op} {h g c : Nat} (e6 : D' 6 = D 6) (e3 : D' (56 + 7 * h + 3) = D (56 + 7 * h + 3)) : sp_vis D' l h g c = sp_vis D l h g c := by unfold sp_vis; rw [e6, e3]
section VR
variable {D D' : Nat → Nat} {l : List ms_Op} {T T' : Nat → Nat → Int32}
theorem V_w (hV : sp_V D l) (e : ∀ x, x < 168 ∨ 213 ≤ x → D' x = D x) (hw : ∀ w, w < D 3 → D' (168 + 15 * w) < D 0 ∧ D' (168 + 15 * w + 1) ≤ 1440 ∧ D' (168 + 15 * w + 2) ≤ 12 ∧ ∀ k, k < D' (168 + 15 * w + 2) → D' (168 + 15 * w + 3 + k) < D 2) : sp_V D' l := by
  have c1 := hV.1.2.1
  have c2 := hV.1.2.2.1
  refine ⟨?_, fun s hs => ?_, fun h hh => ?_, fun w hq => ?_, fun q => ?_⟩
  · rw [e 0 (by omega), e 1 (by omega), e 2 (by omega), e 3 (by omega), e 4 (by omega), e 5 (by omega), e 6 (by omega)]; exact hV.1
  · rw [e 1 (by omega)] at hs
    rw [e 0 (by omega), e _ (show 8 + 4 * s < 168 ∨ _ by omega), e _ (show 8 + 4 * s + 1 < 168 ∨ _ by omega), e _ (show 8 + 4 * s + 2 < 168 ∨ _ by omega), e _ (show 8 + 4 * s + 3 < 168 ∨ _ by omega)]
    exact hV.2.1 s hs
  · rw [e 2 (by omega)] at hh
    have := (hV.2.2.1 h hh).1
    rw [e 1 (by omega), e _ (show 56 + 7 * h < 168 ∨ _ by omega), e _ (show 56 + 7 * h + 1 < 168 ∨ _ by omega), e _ (show 56 + 7 * h + 2 < 168 ∨ _ by omega), e _ (show 56 + 7 * h + 3 < 168 ∨ _ by omega), e _ (show 56 + 7 * h + 4 < 168 ∨ _ by omega), e _ (show 56 + 7 * h + 5 < 168 ∨ _ by omega), e _ (show 56 + 7 * h + 6 < 168 ∨ _ by omega), e _ (show 8 + 4 * D (56 + 7 * h) + 2 < 168 ∨ _ by omega)]
    exact hV.2.2.1 h hh
  · rw [e 3 (by omega)] at hq
    rw [e 0 (by omega), e 2 (by omega)]
    exact hw w hq
  · rw [e 6 (by omega)] at q
    have := hV.2.2.2.2 q
    rw [e 7 (by omega)]
    exact ⟨this.1, this.2.1, this.2.2.1, fun i hi => by rw [e _ (by omega)]; exact this.2.2.2 i hi⟩
theorem V_h (hV : sp_V D l) (e : ∀ x, x < 56 ∨ 168 ≤ x → D' x = D x) (hh : ∀ h, h < D 2 → D' (56 + 7 * h) < D 1 ∧ D' (56 + 7 * h + 1) ≤ D (8 + 4 * D' (56 + 7 * h) + 2) ∧ D' (56 + 7 * h + 2) ≤ 1 ∧ D' (56 + 7 * h + 3) ≤ 20 ∧ D' (56 + 7 * h + 4) < D' (56 + 7 * h + 5) ∧ D' (56 + 7 * h + 5) ≤ 1440 ∧ D' (56 + 7 * h + 6) ≤ 1) : sp_V D' l := by
  have c1 := hV.1.2.1
  refine ⟨?_, fun s hs => ?_, fun h hq => ?_, fun w hq => ?_, fun q => ?_⟩
  · rw [e 0 (by omega), e 1 (by omega), e 2 (by omega), e 3 (by omega), e 4 (by omega), e 5 (by omega), e 6 (by omega)]; exact hV.1
  · rw [e 1 (by omega)] at hs
    rw [e 0 (by omega), e _ (show 8 + 4 * s < 56 ∨ _ by omega), e _ (show 8 + 4 * s + 1 < 56 ∨ _ by omega), e _ (show 8 + 4 * s + 2 < 56 ∨ _ by omega), e _ (show 8 + 4 * s + 3 < 56 ∨ _ by omega)]
    exact hV.2.1 s hs
  · rw [e 2 (by omega)] at hq
    have := hh h hq
    rw [e 1 (by omega), e _ (show 8 + 4 * D' (56 + 7 * h) + 2 < 56 ∨ _ by omega)]
    exact this
  · rw [e 3 (by omega)] at hq
    have := hV.2.2.2.1 w hq
    rw [e 0 (by omega), e 2 (by omega), e _ (show 168 + 15 * w < 56 ∨ _ by omega), e _ (show 168 + 15 * w + 1 < 56 ∨ _ by omega), e _ (show 168 + 15 * w + 2 < 56 ∨ _ by omega)]
    exact ⟨this.1, this.2.1, this.2.2.1, fun k hk => by rw [e _ (by omega)]; exact this.2.2.2 k hk⟩
  · rw [e 6 (by omega)] at q
    have := hV.2.2.2.2 q
    rw [e 7 (by omega)]
    exact ⟨this.1, this.2.1, this.2.2.1, fun i hi => by rw [e _ (by omega)]; exact this.2.2.2 i hi⟩
theorem V_s (hV : sp_V D l) (e : ∀ x, x < 8 ∨ 56 ≤ x → D' x = D x) (hs : ∀ s, s < D 1 → D' (8 + 4 * s) = D (8 + 4 * s) ∧ D' (8 + 4 * s + 1) = D (8 + 4 * s + 1) ∧ D' (8 + 4 * s + 2) = D (8 + 4 * s + 2) ∧ D' (8 + 4 * s + 3) ≤ 1) : sp_V D' l := by
  refine ⟨?_, fun s hq => ?_, fun h hq => ?_, fun w hq => ?_, fun q => ?_⟩
  · rw [e 0 (by omega), e 1 (by omega), e 2 (by omega), e 3 (by omega), e 4 (by omega), e 5 (by omega), e 6 (by omega)]; exact hV.1
  · rw [e 1 (by omega)] at hq
    obtain ⟨h1, h2, h3, h4⟩ := hs s hq
    have := hV.2.1 s hq
    rw [e 0 (by omega), h1, h2, h3]
    exact ⟨this.1, this.2.1, this.2.2.1, this.2.2.2.1, this.2.2.2.2.1, h4⟩
  · rw [e 2 (by omega)] at hq
    have := hV.2.2.1 h hq
    rw [e 1 (by omega), e _ (show 56 + 7 * h < 8 ∨ _ by omega), e _ (show 56 + 7 * h + 1 < 8 ∨ _ by omega), e _ (show 56 + 7 * h + 2 < 8 ∨ _ by omega), e _ (show 56 + 7 * h + 3 < 8 ∨ _ by omega), e _ (show 56 + 7 * h + 4 < 8 ∨ _ by omega), e _ (show 56 + 7 * h + 5 < 8 ∨ _ by omega), e _ (show 56 + 7 * h + 6 < 8 ∨ _ by omega), (hs _ this.1).2.2.1]
    exact this
  · rw [e 3 (by omega)] at hq
    have := hV.2.2.2.1 w hq
    rw [e 0 (by omega), e 2 (by omega), e _ (show 168 + 15 * w < 8 ∨ _ by omega), e _ (show 168 + 15 * w + 1 < 8 ∨ _ by omega), e _ (show 168 + 15 * w + 2 < 8 ∨ _ by omega)]
    exact ⟨this.1, this.2.1, this.2.2.1, fun k hk => by rw [e _ (by omega)]; exact this.2.2.2 k hk⟩
  · rw [e 6 (by omega)] at q
    have := hV.2.2.2.2 q
    rw [e 7 (by omega)]
    exact ⟨this.1, this.2.1, this.2.2.1, fun i hi => by rw [e _ (by omega)]; exact this.2.2.2 i hi⟩
theorem R_w (hV : sp_V D l) (hR : sp_R T D l) (e : ∀ x, x < 168 → D' x = D x) (eT : ∀ i y, i ≤ 17 → T' i y = T i y) (hw : ∀ w, w < D 3 → D' (168 + 15 * w) = D (168 + 15 * w) ∧ D' (168 + 15 * w + 1) = D (168 + 15 * w + 1) ∧ T' 18 w = nI (D' (168 + 15 * w + 2)) ∧ ∀ k, k < D' (168 + 15 * w + 2) → T' 19 (w * 12 + k) = nI (D' (168 + 15 * w + 3 + k))) : sp_R T' D' l := by
  have c1 := hV.1.2.1
  have c2 := hV.1.2.2.1
  refine ⟨?_, fun s hs => ?_, fun h hh => ?_, fun w hq => ?_⟩
  · rw [eT _ _ (by omega), eT _ _ (by omega), eT _ _ (by omega), eT _ _ (by omega), eT _ _ (by omega), eT _ _ (by omega), e 0 (by omega), e 1 (by omega), e 2 (by omega), e 3 (by omega), e 4 (by omega), e 5 (by omega)]
    exact hR.1
  · rw [e 1 (by omega)] at hs
    rw [eT _ _ (by omega), eT _ _ (by omega), eT _ _ (by omega), eT _ _ (by omega), e _ (show 8 + 4 * s < 168 by omega), e _ (show 8 + 4 * s + 1 < 168 by omega), e _ (show 8 + 4 * s + 2 < 168 by omega), e _ (show 8 + 4 * s + 3 < 168 by omega)]
    exact hR.2.1 s hs
  · rw [e 2 (by omega)] at hh
    obtain ⟨r1, r2, r3, r4, r5, r6, r7, r8⟩ := hR.2.2.1 h hh
    rw [eT _ _ (by omega), eT _ _ (by omega), eT _ _ (by omega), eT _ _ (by omega), eT _ _ (by omega), eT _ _ (by omega), eT _ _ (by omega), e _ (show 56 + 7 * h < 168 by omega), e _ (show 56 + 7 * h + 1 < 168 by omega), e _ (show 56 + 7 * h + 2 < 168 by omega), e _ (show 56 + 7 * h + 3 < 168 by omega), e _ (show 56 + 7 * h + 4 < 168 by omega), e _ (show 56 + 7 * h + 5 < 168 by omega), e _ (show 56 + 7 * h + 6 < 168 by omega)]
    refine ⟨r1, r2, r3, r4, r5, r6, r7, fun g c hg hc => ?_⟩
    rw [eT _ _ (by omega), vis_eq (e 6 (by omega)) (e _ (by omega))]
    exact r8 g c hg hc
  · rw [e 3 (by omega)] at hq
    obtain ⟨h1, h2, h3, h4⟩ := hw w hq
    have := hR.2.2.2 w hq
    rw [eT _ _ (by omega), eT _ _ (by omega), h1, h2]
    exact ⟨this.1, this.2.1, h3, h4⟩
theorem R_h (hV : sp_V D l) (hR : sp_R T D l) (e : ∀ x, x < 56 ∨ 168 ≤ x → D' x = D x) (eT : ∀ i y, i ≠ 11 ∧ i ≠ 12 ∧ i ≠ 13 → T' i y = T i y) (hh : ∀ h, h < D 2 → D' (56 + 7 * h) = D (56 + 7 * h) ∧ D' (56 + 7 * h + 1) = D (56 + 7 * h + 1) ∧ D' (56 + 7 * h + 2) = D (56 + 7 * h + 2) ∧ D' (56 + 7 * h + 3) = D (56 + 7 * h + 3) ∧ T' 11 h = nI (D' (56 + 7 * h + 4)) ∧ T' 12 h = nI (D' (56 + 7 * h + 5)) ∧ T' 13 h = nI (D' (56 + 7 * h + 6))) : sp_R T' D' l := by
  have c1 := hV.1.2.1
  refine ⟨?_, fun s hs => ?_, fun h hq => ?_, fun w hq => ?_⟩
  · rw [eT _ _ (by omega), eT _ _ (by omega), eT _ _ (by omega), eT _ _ (by omega), eT _ _ (by omega), eT _ _ (by omega), e 0 (by omega), e 1 (by omega), e 2 (by omega), e 3 (by omega), e 4 (by omega), e 5 (by omega)]
    exact hR.1
  · rw [e 1 (by omega)] at hs
    rw [eT _ _ (by omega), eT _ _ (by omega), eT _ _ (by omega), eT _ _ (by omega), e _ (show 8 + 4 * s < 56 ∨ _ by omega), e _ (show 8 + 4 * s + 1 < 56 ∨ _ by omega), e _ (show 8 + 4 * s + 2 < 56 ∨ _ by omega), e _ (show 8 + 4 * s + 3 < 56 ∨ _ by omega)]
    exact hR.2.1 s hs
  · rw [e 2 (by omega)] at hq
    obtain ⟨r1, r2, r3, r4, r5, r6, r7, r8⟩ := hR.2.2.1 h hq
    obtain ⟨h1, h2, h3, h4, h5, h6, h7⟩ := hh h hq
    rw [eT 7 _ (by omega), eT 8 _ (by omega), eT 9 _ (by omega), eT 10 _ (by omega), h1, h2, h3, h4]
    refine ⟨r1, r2, r3, r4, h5, h6, h7, fun g c hg hc => ?_⟩
    rw [eT _ _ (by omega), vis_eq (e 6 (by omega)) h4]
    exact r8 g c hg hc
  · rw [e 3 (by omega)] at hq
    have := hR.2.2.2 w hq
    rw [eT _ _ (by omega), eT _ _ (by omega), eT _ _ (by omega), e _ (show 168 + 15 * w < 56 ∨ _ by omega), e _ (show 168 + 15 * w + 1 < 56 ∨ _ by omega), e _ (show 168 + 15 * w + 2 < 56 ∨ _ by omega)]
    exact ⟨this.1, this.2.1, this.2.2.1, fun k hk => by rw [eT _ _ (by omega), e _ (by omega)]; exact this.2.2.2 k hk⟩
theorem R_s (hR : sp_R T D l) (e : ∀ x, x < 8 ∨ 56 ≤ x → D' x = D x) (eT : ∀ i y, i ≠ 5 → T' i y = T i y) (hs : ∀ s, s < D 1 → D' (8 + 4 * s) = D (8 + 4 * s) ∧ D' (8 + 4 * s + 1) = D (8 + 4 * s + 1) ∧ D' (8 + 4 * s + 2) = D (8 + 4 * s + 2) ∧ T' 5 s = nI (1 - D' (8 + 4 * s + 3))) : sp_R T' D' l := by
  refine ⟨?_, fun s hq => ?_, fun h hq => ?_, fun w hq => ?_⟩
  · rw [eT _ _ (by omega), eT _ _ (by omega), eT _ _ (by omega), eT _ _ (by omega), eT _ _ (by omega), eT _ _ (by omega), e 0 (by omega), e 1 (by omega), e 2 (by omega), e 3 (by omega), e 4 (by omega), e 5 (by omega)]
    exact hR.1
  · rw [e 1 (by omega)] at hq
    obtain ⟨h1, h2, h3, h4⟩ := hs s hq
    have := hR.2.1 s hq
    rw [eT 2 _ (by omega), eT 3 _ (by omega), eT 4 _ (by omega), h1, h2, h3]
    exact ⟨this.1, this.2.1, this.2.2.1, h4⟩
  · rw [e 2 (by omega)] at hq
    obtain ⟨r1, r2, r3, r4, r5, r6, r7, r8⟩ := hR.2.2.1 h hq
    rw [eT 7 _ (by omega), eT 8 _ (by omega), eT 9 _ (by omega), eT 10 _ (by omega), eT 11 _ (by omega), eT 12 _ (by omega), eT 13 _ (by omega), e _ (show 56 + 7 * h < 8 ∨ _ by omega), e _ (show 56 + 7 * h + 1 < 8 ∨ _ by omega), e _ (show 56 + 7 * h + 2 < 8 ∨ _ by omega), e _ (show 56 + 7 * h + 3 < 8 ∨ _ by omega), e _ (show 56 + 7 * h + 4 < 8 ∨ _ by omega), e _ (show 56 + 7 * h + 5 < 8 ∨ _ by omega), e _ (show 56 + 7 * h + 6 < 8 ∨ _ by omega)]
    refine ⟨r1, r2, r3, r4, r5, r6, r7, fun g c hg hc => ?_⟩
    rw [eT _ _ (by omega), vis_eq (e 6 (by omega)) (e _ (by omega))]
    exact r8 g c hg hc
  · rw [e 3 (by omega)] at hq
    have := hR.2.2.2 w hq
    rw [eT _ _ (by omega), eT _ _ (by omega), eT _ _ (by omega), e _ (show 168 + 15 * w < 8 ∨ _ by omega), e _ (show 168 + 15 * w + 1 < 8 ∨ _ by omega), e _ (show 168 + 15 * w + 2 < 8 ∨ _ by omega)]
    exact ⟨this.1, this.2.1, this.2.2.1, fun k hk => by rw [eT _ _ (by omega), e _ (by omega)]; exact this.2.2.2 k hk⟩
end VR
/-- the reference's data after a write -/
theorem M_u {u : ms_St} {D : Nat → Nat} {k v : Nat} (h : sp_M u 235 D) : sp_M (ms_sI u 235 k (nI v)) 235 (sp_u D k v) := by
  intro j hj
  rw [I_sI, u_at]
  by_cases q : j = k
  · rw [if_pos ⟨rfl, q⟩, if_pos q]
  · rw [if_neg (by omega), if_neg q]; exact h j hj
/-! counting bits -/
noncomputable def sp_pc (n : Nat) : Nat → Nat := Nat.rec (fun _ => 0) (fun _ ih s => Nat.add (Nat.mod s 2) (ih (Nat.div s 2))) n
theorem pc_s (n s : Nat) : sp_pc (n + 1) s = s % 2 + sp_pc n (s / 2) := rfl
theorem pc_0 : ∀ n, sp_pc n 0 = 0
  | 0 => rfl
  | n + 1 => by rw [pc_s, pc_0 n]
theorem pc_le : ∀ n s, sp_pc n s ≤ n
  | 0, _ => Nat.le_refl _
  | n + 1, s => by have := pc_le n (s / 2); rw [pc_s]; omega
theorem m_size4 {E : ms_En} {u : ms_St} {a0 : Int32} {post : Int32 → ms_St → Prop} : ∀ n s x, s < 2 ^ n → n ≤ 30 → post (nI (x + sp_pc n s)) u → wp_X11_size_4 E a0 post (n + 1) u (nI x) (nI s) := by
  intro n
  induction n with
  | zero =>
    intro s x hs _ hp
    have e : s = 0 := by omega
    subst e
    unfold wp_X11_size_4
    exact ⟨fun _ => hp, fun q => absurd (nI_le (a := 0) (b := 0) (by omega) (by omega)) q⟩
  | succ n ih =>
    intro s x hs hn hp
    have h31 : 2 ^ (n + 1) < 2 ^ 31 := Nat.pow_lt_pow_right (by decide) (by omega)
    have h2 : 2 ^ (n + 1) = 2 ^ n * 2 := Nat.pow_succ 2 n
    unfold wp_X11_size_4
    refine pk_le s 0 (fun q => ?_) (fun q v13 e13 v17 e17 => ?_)
    · have e : s = 0 := by omega
      subst e
      rw [pc_0, Nat.add_zero] at hp
      exact hp
    · rw [show (2 : Int32) = nI 2 from rfl, pk_rem (by omega) (by omega) (by omega), nI_add] at e13
      rw [show (2 : Int32) = nI 2 from rfl, pk_div (by omega) (by omega) (by omega)] at e17
      subst e13
      subst e17
      refine ih (s / 2) (x + s % 2) (by omega) (by omega) ?_
      rw [pc_s] at hp
      rw [Nat.add_assoc]
      exact hp
theorem m_size {E : ms_En} {u : ms_St} {s : Nat} {post : Int32 → ms_St → Prop} (hs : s < 2 ^ 16) (hp : post (nI (sp_pc 16 s)) u) : wp_X11_size E u (nI s) post := by
  unfold wp_X11_size
  exact ⟨17, m_size4 16 s 0 hs (by omega) (by rw [Nat.zero_add]; exact hp)⟩
theorem bt_and (a b : Nat) : nI a &&& nI b = nI (a &&& b) := by
  apply Int32.toBitVec_inj.1
  show BitVec.ofNat 32 a &&& BitVec.ofNat 32 b = BitVec.ofNat 32 (a &&& b)
  apply BitVec.eq_of_getLsbD_eq
  intro i hi
  simp [hi]
def bc_1 (s : Nat) : Nat := Nat.sub s (Nat.land (Nat.div s 2) 1431655765)
def bc_2 (s : Nat) : Nat := Nat.add (Nat.land s 858993459) (Nat.land (Nat.div s 4) 858993459)
def bc_3 (s : Nat) : Nat := Nat.land (Nat.add s (Nat.div s 16)) 252645135
def bc_4 (s : Nat) : Nat := Nat.add s (Nat.div s 256)
def bc_5 (s : Nat) : Nat := Nat.add s (Nat.div s 65536)
def bc_f (s : Nat) : Nat := Nat.land (bc_5 (bc_4 (bc_3 (bc_2 (bc_1 s))))) 63
theorem bc_t0 : ∀ a, a < 32 → ∀ b, b < 256 → bc_f (0 + 256 * a + b) = sp_pc 16 (0 + 256 * a + b) := by decide +kernel
theorem bc_t1 : ∀ a, a < 32 → ∀ b, b < 256 → bc_f (8192 + 256 * a + b) = sp_pc 16 (8192 + 256 * a + b) := by decide +kernel
theorem bc_t2 : ∀ a, a < 32 → ∀ b, b < 256 → bc_f (16384 + 256 * a + b) = sp_pc 16 (16384 + 256 * a + b) := by decide +kernel
theorem bc_t3 : ∀ a, a < 32 → ∀ b, b < 256 → bc_f (24576 + 256 * a + b) = sp_pc 16 (24576 + 256 * a + b) := by decide +kernel
theorem bc_t4 : ∀ a, a < 32 → ∀ b, b < 256 → bc_f (32768 + 256 * a + b) = sp_pc 16 (32768 + 256 * a + b) := by decide +kernel
theorem bc_t5 : ∀ a, a < 32 → ∀ b, b < 256 → bc_f (40960 + 256 * a + b) = sp_pc 16 (40960 + 256 * a + b) := by decide +kernel
theorem bc_t6 : ∀ a, a < 32 → ∀ b, b < 256 → bc_f (49152 + 256 * a + b) = sp_pc 16 (49152 + 256 * a + b) := by decide +kernel
theorem bc_t7 : ∀ a, a < 32 → ∀ b, b < 256 → bc_f (57344 + 256 * a + b) = sp_pc 16 (57344 + 256 * a + b) := by decide +kernel
theorem bc_tab {s : Nat} (h : s < 2 ^ 16) : bc_f s = sp_pc 16 s := by
  have h0 := bc_t0 ((s - 0) / 256)
  have h1 := bc_t1 ((s - 8192) / 256)
  have h2 := bc_t2 ((s - 16384) / 256)
  have h3 := bc_t3 ((s - 24576) / 256)
  have h4 := bc_t4 ((s - 32768) / 256)
  have h5 := bc_t5 ((s - 40960) / 256)
  have h6 := bc_t6 ((s - 49152) / 256)
  have h7 := bc_t7 ((s - 57344) / 256)
  rcases (show (0 ≤ s ∧ s < 8192) ∨ (8192 ≤ s ∧ s < 16384) ∨ (16384 ≤ s ∧ s < 24576) ∨ (24576 ≤ s ∧ s < 32768) ∨ (32768 ≤ s ∧ s < 40960) ∨ (40960 ≤ s ∧ s < 49152) ∨ (49152 ≤ s ∧ s < 57344) ∨ (57344 ≤ s ∧ s < 65536) by omega) with q | q | q | q | q | q | q | q
  · have := h0 (by omega) ((s - 0) % 256) (by omega)
    rw [show 0 + 256 * ((s - 0) / 256) + (s - 0) % 256 = s by omega] at this
    exact this
  · have := h1 (by omega) ((s - 8192) % 256) (by omega)
    rw [show 8192 + 256 * ((s - 8192) / 256) + (s - 8192) % 256 = s by omega] at this
    exact this
  · have := h2 (by omega) ((s - 16384) % 256) (by omega)
    rw [show 16384 + 256 * ((s - 16384) / 256) + (s - 16384) % 256 = s by omega] at this
    exact this
  · have := h3 (by omega) ((s - 24576) % 256) (by omega)
    rw [show 24576 + 256 * ((s - 24576) / 256) + (s - 24576) % 256 = s by omega] at this
    exact this
  · have := h4 (by omega) ((s - 32768) % 256) (by omega)
    rw [show 32768 + 256 * ((s - 32768) / 256) + (s - 32768) % 256 = s by omega] at this
    exact this
  · have := h5 (by omega) ((s - 40960) % 256) (by omega)
    rw [show 40960 + 256 * ((s - 40960) / 256) + (s - 40960) % 256 = s by omega] at this
    exact this
  · have := h6 (by omega) ((s - 49152) % 256) (by omega)
    rw [show 49152 + 256 * ((s - 49152) / 256) + (s - 49152) % 256 = s by omega] at this
    exact this
  · have := h7 (by omega) ((s - 57344) % 256) (by omega)
    rw [show 57344 + 256 * ((s - 57344) / 256) + (s - 57344) % 256 = s by omega] at this
    exact this
theorem J_bitCount {E : ms_En} {u : ms_St} {s : Nat} {post : Int32 → ms_St → Prop} (hs : s < 2 ^ 16) (hp : post (nI (sp_pc 16 s)) u) : wp_J6_bitCount_0f7a4 E u (nI s) post := by
  rw [← bc_tab hs] at hp
  unfold bc_f at hp
  unfold wp_J6_bitCount_0f7a4
  intro v9 e9 v23 e23 v33 e33 v40 e40 v47 e47
  have a1 : s / 2 &&& 1431655765 ≤ s / 2 := Nat.and_le_left
  have x9 : v9 = nI (bc_1 s) := by
    rw [e9, pk_ushrN (by omega) 1 1 (by decide), show (1431655765 : Int32) = nI 1431655765 from rfl, bt_and, show s / 2 ^ 1 = s / 2 from rfl, pk_sub (by omega)]
    rfl
  have b1 : bc_1 s < 2 ^ 16 := by show s - (s / 2 &&& 1431655765) < _; omega
  clear e9
  generalize bc_1 s = s1 at *
  have a2 : s1 &&& 858993459 ≤ s1 := Nat.and_le_left
  have a3 : s1 / 4 &&& 858993459 ≤ s1 / 4 := Nat.and_le_left
  have x23 : v23 = nI (bc_2 s1) := by
    rw [e23, x9, pk_ushrN (by omega) 2 2 (by decide), show (858993459 : Int32) = nI 858993459 from rfl, bt_and, bt_and, nI_add]
    rfl
  have b2 : bc_2 s1 < 2 ^ 18 := by show (s1 &&& 858993459) + (s1 / 4 &&& 858993459) < _; omega
  clear e23
  generalize bc_2 s1 = s2 at *
  have a4 : (s2 + s2 / 16) &&& 252645135 ≤ s2 + s2 / 16 := Nat.and_le_left
  have x33 : v33 = nI (bc_3 s2) := by
    rw [e33, x23, pk_ushrN (by omega) 4 4 (by decide), nI_add, show (252645135 : Int32) = nI 252645135 from rfl, bt_and]
    rfl
  have b3 : bc_3 s2 < 2 ^ 20 := by show (s2 + s2 / 16) &&& 252645135 < _; omega
  clear e33
  generalize bc_3 s2 = s3 at *
  have x40 : v40 = nI (bc_4 s3) := by
    rw [e40, x33, pk_ushrN (by omega) 8 8 (by decide), nI_add]
    rfl
  have b4 : bc_4 s3 < 2 ^ 21 := by show s3 + s3 / 256 < _; omega
  clear e40
  generalize bc_4 s3 = s4 at *
  have x47 : v47 = nI (bc_5 s4) := by
    rw [e47, x40, pk_ushrN (by omega) 16 16 (by decide), nI_add]
    rfl
  rw [x47, show (63 : Int32) = nI 63 from rfl, bt_and]
  exact hp
