/-! ===== the setup text: what is answered ===== -/
abbrev ms_ZZ : Type := (Nat × Nat) ⊕ (Nat × (Nat → Nat) × List ms_Op)
def pz_nb (r : (Nat × Nat) ⊕ (Nat × Nat)) (k : Nat → Nat → ms_ZZ) : ms_ZZ := match r with
  | Sum.inl e => Sum.inl e
  | Sum.inr x => k x.1 x.2
def pz_zb (r : ms_ZZ) (k : Nat → (Nat → Nat) → List ms_Op → ms_ZZ) : ms_ZZ := match r with
  | Sum.inl e => Sum.inl e
  | Sum.inr x => k x.1 x.2.1 x.2.2
def st_D (D : Nat → Nat) (a b c : Nat) : Nat → Nat := fun k => if k = 1 then D 1 + 1 else if k = 8 + 4 * D 1 then a else if k = 8 + 4 * D 1 + 1 then b else if k = 8 + 4 * D 1 + 2 then c else D k
def ho_D (D : Nat → Nat) (s o e p f t g : Nat) : Nat → Nat := fun k => if k = 2 then D 2 + 1 else if k = 56 + 7 * D 2 then s else if k = 56 + 7 * D 2 + 1 then o else if k = 56 + 7 * D 2 + 2 then e else if k = 56 + 7 * D 2 + 3 then p else if k = 56 + 7 * D 2 + 4 then f else if k = 56 + 7 * D 2 + 5 then t else if k = 56 + 7 * D 2 + 6 then g else D k
def wa_D (D : Nat → Nat) (c t : Nat) : Nat → Nat := fun k => if k = 3 then D 3 + 1 else if k = 168 + 15 * D 3 then c else if k = 168 + 15 * D 3 + 1 then t else D k
section SD
variable (B : Nat → Nat) (N : Nat)
def pz_st (q : Nat) (D : Nat → Nat) (l : List ms_Op) : ms_ZZ := pz_nb (pz_n B N q 0 (D 0)) (fun a q2 => pz_nb (pz_n B N q2 0 (D 0)) (fun b q3 => if b = a then Sum.inl (3, q2) else pz_nb (pz_n B N q3 1 100) (fun c q4 => Sum.inr (q4, st_D D a b c, l))))
def pz_ho (q : Nat) (D : Nat → Nat) (l : List ms_Op) : ms_ZZ := pz_nb (pz_n B N q 0 (D 1)) (fun s q2 => pz_nb (pz_n B N q2 0 (D (8 + 4 * s + 2) + 1)) (fun o q3 => pz_nb (pz_n B N q3 0 2) (fun e q4 => pz_nb (pz_n B N q4 0 21) (fun p q5 => pz_nb (pz_n B N q5 0 1440) (fun f q6 => pz_nb (pz_n B N q6 (f + 1) 1441) (fun t q7 => if pz_wd B N w_dog q7 = true then Sum.inr (pz_s B N (q7 + 3), ho_D D s o e p f t 1, l) else Sum.inr (q7, ho_D D s o e p f t 0, l)))))))
def pz_wa (q : Nat) (D : Nat → Nat) (l : List ms_Op) : ms_ZZ := pz_nb (pz_n B N q 0 (D 0)) (fun c q2 => pz_nb (pz_n B N q2 0 1441) (fun t q3 => Sum.inr (q3, wa_D D c t, l)))
def pz_vi (q : Nat) (D : Nat → Nat) : ms_ZZ := match pz_S B N 6 0 q [] with
  | Sum.inl e => Sum.inl e
  | Sum.inr x => Sum.inr (x.1, dr (sp_u D 6 1) (sp_fl x.2), x.2)
def pz_sm (q : Nat) (D : Nat → Nat) (l : List ms_Op) : ms_ZZ :=
  if pz_wd B N w_street q = true then (if D 1 = 12 then Sum.inl (4, q) else pz_st B N (pz_s B N (q + 6)) D l)
  else if pz_wd B N w_house q = true then (if D 2 = 16 then Sum.inl (4, q) else pz_ho B N (pz_s B N (q + 5)) D l)
  else if pz_wd B N w_walker q = true then (if D 3 = 3 then Sum.inl (4, q) else pz_wa B N (pz_s B N (q + 6)) D l)
  else if pz_wd B N w_cross q = true then (if D 2000 = 1 then Sum.inl (2, q) else pz_nb (pz_n B N (pz_s B N (q + 5)) 0 10) (fun v q' => Sum.inr (q', sp_u (sp_u D 2000 1) 4 v, l)))
  else if pz_wd B N w_gap q = true then (if D 2001 = 1 then Sum.inl (2, q) else pz_nb (pz_n B N (pz_s B N (q + 3)) 0 601) (fun v q' => Sum.inr (q', sp_u (sp_u D 2001 1) 5 v, l)))
  else if pz_wd B N w_visit q = true then (if D 6 = 1 then Sum.inl (2, q) else pz_vi B N (pz_s B N (q + 5)) D)
  else Sum.inl (2, q)
def pz_sc (q : Nat) (D : Nat → Nat) (l : List ms_Op) : ms_ZZ := if pz_at B N q = 59 then Sum.inr (pz_s B N (q + 1), D, l) else Sum.inl (2, q)
def pz_lp : Nat → Nat → (Nat → Nat) → List ms_Op → ms_ZZ
  | 0 => fun q D l => Sum.inr (q, D, l)
  | n + 1 => fun q D l => if N ≤ q then Sum.inr (q, D, l) else pz_zb (pz_zb (pz_sm B N q D l) (pz_sc B N)) (pz_lp n)
def Dz : Nat → Nat := fun k => if k = 5 then 60 else 0
def pz_hd : ms_ZZ := if pz_wd B N w_town (pz_s B N 0) = true then pz_nb (pz_n B N (pz_s B N (pz_s B N 0 + 4)) 1 11) (fun v q => pz_sc B N q (sp_u Dz 0 v) []) else Sum.inl (2, pz_s B N 0)
def pz_all : ms_ZZ := pz_zb (pz_hd B N) (pz_lp B N (N + 1))
end SD
theorem lp_s {B : Nat → Nat} {N n q : Nat} {D : Nat → Nat} {l : List ms_Op} : pz_lp B N (n + 1) q D l = if N ≤ q then Sum.inr (q, D, l) else pz_zb (pz_zb (pz_sm B N q D l) (pz_sc B N)) (pz_lp B N n) := rfl
def pw (D : Nat → Nat) (l : List ms_Op) : Prop := (1 ≤ D 0 ∧ D 0 ≤ 10 ∧ D 1 ≤ 12 ∧ D 2 ≤ 16 ∧ D 3 ≤ 3 ∧ D 4 ≤ 9 ∧ D 5 ≤ 600 ∧ D 6 ≤ 1 ∧ D 2000 ≤ 1 ∧ D 2001 ≤ 1)
  ∧ (∀ s, s < D 1 → D (8 + 4 * s) < D 0 ∧ D (8 + 4 * s + 1) < D 0 ∧ D (8 + 4 * s) ≠ D (8 + 4 * s + 1) ∧ 1 ≤ D (8 + 4 * s + 2) ∧ D (8 + 4 * s + 2) ≤ 99)
  ∧ (∀ s, s < 12 → D (8 + 4 * s + 3) = 0)
  ∧ (∀ h, h < D 2 → D (56 + 7 * h) < D 1 ∧ D (56 + 7 * h + 1) ≤ D (8 + 4 * D (56 + 7 * h) + 2) ∧ D (56 + 7 * h + 2) ≤ 1 ∧ D (56 + 7 * h + 3) ≤ 20 ∧ D (56 + 7 * h + 4) < D (56 + 7 * h + 5) ∧ D (56 + 7 * h + 5) ≤ 1440 ∧ D (56 + 7 * h + 6) ≤ 1)
  ∧ (∀ w, w < D 3 → D (168 + 15 * w) < D 0 ∧ D (168 + 15 * w + 1) ≤ 1440)
  ∧ (∀ w, w < 3 → D (168 + 15 * w + 2) = 0)
  ∧ (D 6 = 0 → l = [] ∧ D 7 = 0)
  ∧ (D 6 = 1 → D 7 = (sp_fl l).length ∧ D 7 ≤ 1400 ∧ sp_wf l 0 ∧ ∀ i, i < D 7 → D (213 + i) = (sp_fl l).getD i 0)
theorem pw_V {D : Nat → Nat} {l : List ms_Op} (h : pw D l) : sp_V D l := by
  obtain ⟨⟨a0, a1, a2, a3, a4, a5, a6, a7, a8, a9⟩, hs, hz, hh, hw, hq, h60, h61⟩ := h
  refine ⟨⟨a1, a2, a3, a4, a5, a6, a7⟩, fun s h => ?_, hh, fun w h => ?_, h61⟩
  · obtain ⟨b1, b2, b3, b4, b5⟩ := hs s h
    exact ⟨b1, b2, b3, b4, b5, by rw [hz s (by omega)]; omega⟩
  · obtain ⟨b1, b2⟩ := hw w h
    exact ⟨b1, b2, by rw [hq w (by omega)]; omega, fun k hk => by rw [hq w (by omega)] at hk; omega⟩
section PWS
variable {D D' : Nat → Nat} {l : List ms_Op} {B : Nat → Nat} {N : Nat}
/-- a change of what lies below 8 -/
theorem pw_e (h : pw D l) (e : ∀ k, k ≠ 4 → k ≠ 5 → k ≠ 2000 → k ≠ 2001 → D' k = D k) (e4 : D' 4 ≤ 9) (e5 : D' 5 ≤ 600) (e6 : D' 2000 ≤ 1) (e7 : D' 2001 ≤ 1) : pw D' l := by
  obtain ⟨⟨a0, a1, a2, a3, a4, a5, a6, a7, a8, a9⟩, hs, hz, hh, hw, hq, h60, h61⟩ := h
  refine ⟨⟨?_, ?_, ?_, ?_, ?_, e4, e5, ?_, e6, e7⟩, fun s z => ?_, fun s z => ?_, fun x z => ?_, fun w z => ?_, fun w z => ?_, fun z => ?_, fun z => ?_⟩
  · rw [e 0 (by omega) (by omega) (by omega) (by omega)]; exact a0
  · rw [e 0 (by omega) (by omega) (by omega) (by omega)]; exact a1
  · rw [e 1 (by omega) (by omega) (by omega) (by omega)]; exact a2
  · rw [e 2 (by omega) (by omega) (by omega) (by omega)]; exact a3
  · rw [e 3 (by omega) (by omega) (by omega) (by omega)]; exact a4
  · rw [e 6 (by omega) (by omega) (by omega) (by omega)]; exact a7
  · rw [e 1 (by omega) (by omega) (by omega) (by omega)] at z
    rw [e 0 (by omega) (by omega) (by omega) (by omega), e (8 + 4 * s) (by omega) (by omega) (by omega) (by omega), e (8 + 4 * s + 1) (by omega) (by omega) (by omega) (by omega), e (8 + 4 * s + 2) (by omega) (by omega) (by omega) (by omega)]
    exact hs s z
  · rw [e _ (by omega) (by omega) (by omega) (by omega)]; exact hz s z
  · rw [e 2 (by omega) (by omega) (by omega) (by omega)] at z
    have g := hh x z
    rw [e 1 (by omega) (by omega) (by omega) (by omega), e (56 + 7 * x) (by omega) (by omega) (by omega) (by omega), e (56 + 7 * x + 1) (by omega) (by omega) (by omega) (by omega), e (56 + 7 * x + 2) (by omega) (by omega) (by omega) (by omega), e (56 + 7 * x + 3) (by omega) (by omega) (by omega) (by omega), e (56 + 7 * x + 4) (by omega) (by omega) (by omega) (by omega), e (56 + 7 * x + 5) (by omega) (by omega) (by omega) (by omega), e (56 + 7 * x + 6) (by omega) (by omega) (by omega) (by omega), e (8 + 4 * D (56 + 7 * x) + 2) (by omega) (by omega) (by omega) (by omega)]
    exact g
  · rw [e 3 (by omega) (by omega) (by omega) (by omega)] at z
    rw [e 0 (by omega) (by omega) (by omega) (by omega), e (168 + 15 * w) (by omega) (by omega) (by omega) (by omega), e (168 + 15 * w + 1) (by omega) (by omega) (by omega) (by omega)]
    exact hw w z
  · rw [e _ (by omega) (by omega) (by omega) (by omega)]; exact hq w z
  · rw [e 6 (by omega) (by omega) (by omega) (by omega)] at z
    rw [e 7 (by omega) (by omega) (by omega) (by omega)]
    exact h60 z
  · rw [e 6 (by omega) (by omega) (by omega) (by omega)] at z
    obtain ⟨g1, g2, g3, g4⟩ := h61 z
    rw [e 7 (by omega) (by omega) (by omega) (by omega)]
    exact ⟨g1, g2, g3, fun i hi => by rw [e _ (by omega) (by omega) (by omega) (by omega)]; exact g4 i hi⟩
theorem st_f {a b c k : Nat} (h0 : k ≠ 1) (h1 : k ≠ 8 + 4 * D 1) (h2 : k ≠ 8 + 4 * D 1 + 1) (h3 : k ≠ 8 + 4 * D 1 + 2) : st_D D a b c k = D k := by unfold st_D; rw [if_neg h0, if_neg h1, if_neg h2, if_neg h3]
theorem st_1 {a b c : Nat} : st_D D a b c 1 = D 1 + 1 := if_pos rfl
theorem st_a {a b c : Nat} : st_D D a b c (8 + 4 * D 1) = a := by unfold st_D; rw [if_neg (by omega), if_pos rfl]
theorem st_b {a b c : Nat} : st_D D a b c (8 + 4 * D 1 + 1) = b := by unfold st_D; rw [if_neg (by omega), if_neg (by omega), if_pos rfl]
theorem st_c {a b c : Nat} : st_D D a b c (8 + 4 * D 1 + 2) = c := by unfold st_D; rw [if_neg (by omega), if_neg (by omega), if_neg (by omega), if_pos rfl]
theorem st_ok {a b c : Nat} (h : pw D l) (h1 : D 1 < 12) (ha : a < D 0) (hb : b < D 0) (hab : a ≠ b) (hc : 1 ≤ c ∧ c ≤ 99) : pw (st_D D a b c) l := by
  obtain ⟨⟨a0, a1, a2, a3, a4, a5, a6, a7, a8, a9⟩, hs, hz, hh, hw, hq, h60, h61⟩ := h
  have f : ∀ k, k ≠ 1 → (k < 8 ∨ 56 ≤ k) → st_D D a b c k = D k := fun k z z2 => st_f z (by omega) (by omega) (by omega)
  refine ⟨⟨?_, ?_, ?_, ?_, ?_, ?_, ?_, ?_, ?_, ?_⟩, fun s z => ?_, fun s z => ?_, fun x z => ?_, fun w z => ?_, fun w z => ?_, fun z => ?_, fun z => ?_⟩
  · rw [f 0 (by omega) (by omega)]; exact a0
  · rw [f 0 (by omega) (by omega)]; exact a1
  · rw [st_1]; omega
  · rw [f 2 (by omega) (by omega)]; exact a3
  · rw [f 3 (by omega) (by omega)]; exact a4
  · rw [f 4 (by omega) (by omega)]; exact a5
  · rw [f 5 (by omega) (by omega)]; exact a6
  · rw [f 6 (by omega) (by omega)]; exact a7
  · rw [f 2000 (by omega) (by omega)]; exact a8
  · rw [f 2001 (by omega) (by omega)]; exact a9
  · rw [st_1] at z
    rw [f 0 (by omega) (by omega)]
    by_cases q : s = D 1
    · rw [q, st_a, st_b, st_c]; exact ⟨ha, hb, hab, hc⟩
    · rw [st_f (k := 8 + 4 * s) (by omega) (by omega) (by omega) (by omega), st_f (k := 8 + 4 * s + 1) (by omega) (by omega) (by omega) (by omega), st_f (k := 8 + 4 * s + 2) (by omega) (by omega) (by omega) (by omega)]
      exact hs s (by omega)
  · rw [st_f (by omega) (by omega) (by omega) (by omega)]; exact hz s z
  · rw [f 2 (by omega) (by omega)] at z
    have g := hh x z
    rw [st_1, f (56 + 7 * x) (by omega) (by omega), f (56 + 7 * x + 1) (by omega) (by omega), f (56 + 7 * x + 2) (by omega) (by omega), f (56 + 7 * x + 3) (by omega) (by omega), f (56 + 7 * x + 4) (by omega) (by omega), f (56 + 7 * x + 5) (by omega) (by omega), f (56 + 7 * x + 6) (by omega) (by omega), st_f (k := 8 + 4 * D (56 + 7 * x) + 2) (by omega) (by omega) (by omega) (by omega)]
    exact ⟨by omega, g.2⟩
  · rw [f 3 (by omega) (by omega)] at z
    rw [f 0 (by omega) (by omega), f (168 + 15 * w) (by omega) (by omega), f (168 + 15 * w + 1) (by omega) (by omega)]
    exact hw w z
  · rw [f _ (by omega) (by omega)]; exact hq w z
  · rw [f 6 (by omega) (by omega)] at z
    rw [f 7 (by omega) (by omega)]
    exact h60 z
  · rw [f 6 (by omega) (by omega)] at z
    obtain ⟨g1, g2, g3, g4⟩ := h61 z
    rw [f 7 (by omega) (by omega)]
    exact ⟨g1, g2, g3, fun i hi => by rw [f _ (by omega) (by omega)]; exact g4 i hi⟩
theorem ho_f {s o e p f t g k : Nat} (h0 : k ≠ 2) (h1 : k < 56 + 7 * D 2 ∨ 56 + 7 * D 2 + 7 ≤ k) : ho_D D s o e p f t g k = D k := by
  unfold ho_D
  rw [if_neg h0, if_neg (by omega), if_neg (by omega), if_neg (by omega), if_neg (by omega), if_neg (by omega), if_neg (by omega), if_neg (by omega)]
theorem ho_2 {s o e p f t g : Nat} : ho_D D s o e p f t g 2 = D 2 + 1 := if_pos rfl
theorem ho_at {s o e p f t g : Nat} : ho_D D s o e p f t g (56 + 7 * D 2) = s ∧ ho_D D s o e p f t g (56 + 7 * D 2 + 1) = o ∧ ho_D D s o e p f t g (56 + 7 * D 2 + 2) = e ∧ ho_D D s o e p f t g (56 + 7 * D 2 + 3) = p ∧ ho_D D s o e p f t g (56 + 7 * D 2 + 4) = f ∧ ho_D D s o e p f t g (56 + 7 * D 2 + 5) = t ∧ ho_D D s o e p f t g (56 + 7 * D 2 + 6) = g := by
  unfold ho_D
  refine ⟨?_, ?_, ?_, ?_, ?_, ?_, ?_⟩
  · rw [if_neg (by omega), if_pos rfl]
  · rw [if_neg (by omega), if_neg (by omega), if_pos rfl]
  · rw [if_neg (by omega), if_neg (by omega), if_neg (by omega), if_pos rfl]
  · rw [if_neg (by omega), if_neg (by omega), if_neg (by omega), if_neg (by omega), if_pos rfl]
  · rw [if_neg (by omega), if_neg (by omega), if_neg (by omega), if_neg (by omega), if_neg (by omega), if_pos rfl]
  · rw [if_neg (by omega), if_neg (by omega), if_neg (by omega), if_neg (by omega), if_neg (by omega), if_neg (by omega), if_pos rfl]
  · rw [if_neg (by omega), if_neg (by omega), if_neg (by omega), if_neg (by omega), if_neg (by omega), if_neg (by omega), if_neg (by omega), if_pos rfl]
theorem ho_ok {s o e p f t g : Nat} (h : pw D l) (h2 : D 2 < 16) (hs1 : s < D 1) (ho : o ≤ D (8 + 4 * s + 2)) (he : e ≤ 1) (hp : p ≤ 20) (hf : f < t) (ht : t ≤ 1440) (hg : g ≤ 1) : pw (ho_D D s o e p f t g) l := by
  obtain ⟨⟨a0, a1, a2, a3, a4, a5, a6, a7, a8, a9⟩, hs, hz, hh, hw, hq, h60, h61⟩ := h
  obtain ⟨k0, k1, k2, k3, k4, k5, k6⟩ := ho_at (D := D) (s := s) (o := o) (e := e) (p := p) (f := f) (t := t) (g := g)
  have F : ∀ k, k ≠ 2 → (k < 56 ∨ 168 ≤ k) → ho_D D s o e p f t g k = D k := fun k z z2 => ho_f z (by omega)
  refine ⟨⟨?_, ?_, ?_, ?_, ?_, ?_, ?_, ?_, ?_, ?_⟩, fun x z => ?_, fun x z => ?_, fun x z => ?_, fun w z => ?_, fun w z => ?_, fun z => ?_, fun z => ?_⟩
  · rw [F 0 (by omega) (by omega)]; exact a0
  · rw [F 0 (by omega) (by omega)]; exact a1
  · rw [F 1 (by omega) (by omega)]; exact a2
  · rw [ho_2]; omega
  · rw [F 3 (by omega) (by omega)]; exact a4
  · rw [F 4 (by omega) (by omega)]; exact a5
  · rw [F 5 (by omega) (by omega)]; exact a6
  · rw [F 6 (by omega) (by omega)]; exact a7
  · rw [F 2000 (by omega) (by omega)]; exact a8
  · rw [F 2001 (by omega) (by omega)]; exact a9
  · rw [F 1 (by omega) (by omega)] at z
    rw [F 0 (by omega) (by omega), F (8 + 4 * x) (by omega) (by omega), F (8 + 4 * x + 1) (by omega) (by omega), F (8 + 4 * x + 2) (by omega) (by omega)]
    exact hs x z
  · rw [F _ (by omega) (by omega)]; exact hz x z
  · rw [ho_2] at z
    rw [F 1 (by omega) (by omega)]
    by_cases q : x = D 2
    · rw [q, k0, k1, k2, k3, k4, k5, k6, F (8 + 4 * s + 2) (by omega) (by omega)]
      exact ⟨hs1, ho, he, hp, hf, ht, hg⟩
    · have gg := hh x (by omega)
      rw [ho_f (k := 56 + 7 * x) (by omega) (by omega), ho_f (k := 56 + 7 * x + 1) (by omega) (by omega), ho_f (k := 56 + 7 * x + 2) (by omega) (by omega), ho_f (k := 56 + 7 * x + 3) (by omega) (by omega), ho_f (k := 56 + 7 * x + 4) (by omega) (by omega), ho_f (k := 56 + 7 * x + 5) (by omega) (by omega), ho_f (k := 56 + 7 * x + 6) (by omega) (by omega), F (8 + 4 * D (56 + 7 * x) + 2) (by omega) (by omega)]
      exact gg
  · rw [F 3 (by omega) (by omega)] at z
    rw [F 0 (by omega) (by omega), F (168 + 15 * w) (by omega) (by omega), F (168 + 15 * w + 1) (by omega) (by omega)]
    exact hw w z
  · rw [F _ (by omega) (by omega)]; exact hq w z
  · rw [F 6 (by omega) (by omega)] at z
    rw [F 7 (by omega) (by omega)]
    exact h60 z
  · rw [F 6 (by omega) (by omega)] at z
    obtain ⟨g1, g2, g3, g4⟩ := h61 z
    rw [F 7 (by omega) (by omega)]
    exact ⟨g1, g2, g3, fun i hi => by rw [F _ (by omega) (by omega)]; exact g4 i hi⟩
theorem wa_f {c t k : Nat} (h0 : k ≠ 3) (h1 : k ≠ 168 + 15 * D 3) (h2 : k ≠ 168 + 15 * D 3 + 1) : wa_D D c t k = D k := by unfold wa_D; rw [if_neg h0, if_neg h1, if_neg h2]
theorem wa_3 {c t : Nat} : wa_D D c t 3 = D 3 + 1 := if_pos rfl
theorem wa_c {c t : Nat} : wa_D D c t (168 + 15 * D 3) = c := by unfold wa_D; rw [if_neg (by omega), if_pos rfl]
theorem wa_t {c t : Nat} : wa_D D c t (168 + 15 * D 3 + 1) = t := by unfold wa_D; rw [if_neg (by omega), if_neg (by omega), if_pos rfl]
theorem wa_ok {c t : Nat} (h : pw D l) (h3 : D 3 < 3) (hc : c < D 0) (ht : t ≤ 1440) : pw (wa_D D c t) l := by
  obtain ⟨⟨a0, a1, a2, a3, a4, a5, a6, a7, a8, a9⟩, hs, hz, hh, hw, hq, h60, h61⟩ := h
  have F : ∀ k, k ≠ 3 → (k < 168 ∨ 213 ≤ k) → wa_D D c t k = D k := fun k z z2 => wa_f z (by omega) (by omega)
  refine ⟨⟨?_, ?_, ?_, ?_, ?_, ?_, ?_, ?_, ?_, ?_⟩, fun x z => ?_, fun x z => ?_, fun x z => ?_, fun w z => ?_, fun w z => ?_, fun z => ?_, fun z => ?_⟩
  · rw [F 0 (by omega) (by omega)]; exact a0
  · rw [F 0 (by omega) (by omega)]; exact a1
  · rw [F 1 (by omega) (by omega)]; exact a2
  · rw [F 2 (by omega) (by omega)]; exact a3
  · rw [wa_3]; omega
  · rw [F 4 (by omega) (by omega)]; exact a5
  · rw [F 5 (by omega) (by omega)]; exact a6
  · rw [F 6 (by omega) (by omega)]; exact a7
  · rw [F 2000 (by omega) (by omega)]; exact a8
  · rw [F 2001 (by omega) (by omega)]; exact a9
  · rw [F 1 (by omega) (by omega)] at z
    rw [F 0 (by omega) (by omega), F (8 + 4 * x) (by omega) (by omega), F (8 + 4 * x + 1) (by omega) (by omega), F (8 + 4 * x + 2) (by omega) (by omega)]
    exact hs x z
  · rw [F _ (by omega) (by omega)]; exact hz x z
  · rw [F 2 (by omega) (by omega)] at z
    have gg := hh x z
    rw [F 1 (by omega) (by omega), F (56 + 7 * x) (by omega) (by omega), F (56 + 7 * x + 1) (by omega) (by omega), F (56 + 7 * x + 2) (by omega) (by omega), F (56 + 7 * x + 3) (by omega) (by omega), F (56 + 7 * x + 4) (by omega) (by omega), F (56 + 7 * x + 5) (by omega) (by omega), F (56 + 7 * x + 6) (by omega) (by omega), F (8 + 4 * D (56 + 7 * x) + 2) (by omega) (by omega)]
    exact gg
  · rw [wa_3] at z
    rw [F 0 (by omega) (by omega)]
    by_cases q : w = D 3
    · rw [q, wa_c, wa_t]; exact ⟨hc, ht⟩
    · rw [wa_f (k := 168 + 15 * w) (by omega) (by omega) (by omega), wa_f (k := 168 + 15 * w + 1) (by omega) (by omega) (by omega)]
      exact hw w (by omega)
  · rw [wa_f (by omega) (by omega) (by omega)]; exact hq w z
  · rw [F 6 (by omega) (by omega)] at z
    rw [F 7 (by omega) (by omega)]
    exact h60 z
  · rw [F 6 (by omega) (by omega)] at z
    obtain ⟨g1, g2, g3, g4⟩ := h61 z
    rw [F 7 (by omega) (by omega)]
    exact ⟨g1, g2, g3, fun i hi => by rw [F _ (by omega) (by omega)]; exact g4 i hi⟩
theorem vi_ok {q q' : Nat} {l' : List ms_Op} (h : pw D l) (h6 : D 6 = 0) (hq : q ≤ N) (hN : N ≤ 900) (he : pz_S B N 6 0 q [] = Sum.inr (q', l')) : q < q' ∧ q' ≤ N ∧ pz_at B N q' ≠ 32 ∧ pw (dr (sp_u D 6 1) (sp_fl l')) l' := by
  obtain ⟨b1, b2, b3, b4, b5⟩ := S_ok 6 0 rfl (by omega) q [] 0 hq (by omega) ⟨rfl, by simp [na]⟩ q' l' he
  have hcnt := wr_cnt _ _ _ b4
  have hlen := fl_len l'
  obtain ⟨⟨a0, a1, a2, a3, a4, a5, a6, a7, a8, a9⟩, hs, hz, hh, hw, hqq, h60, h61⟩ := h
  have F : ∀ k, k ≠ 6 → k ≠ 7 → (k < 213 ∨ 1613 ≤ k) → dr (sp_u D 6 1) (sp_fl l') k = D k := by
    intro k z1 z2 z3
    unfold dr
    rw [if_neg z2, if_neg (by omega), u_at, if_neg z1]
  have F6 : dr (sp_u D 6 1) (sp_fl l') 6 = 1 := by
    unfold dr
    rw [if_neg (by omega), if_neg (by omega), u_at, if_pos rfl]
  have F7 : dr (sp_u D 6 1) (sp_fl l') 7 = (sp_fl l').length := by
    unfold dr
    rw [if_pos rfl]
  refine ⟨b1, b2, b3, ⟨?_, ?_, ?_, ?_, ?_, ?_, ?_, ?_, ?_, ?_⟩, fun x z => ?_, fun x z => ?_, fun x z => ?_, fun w z => ?_, fun w z => ?_, fun z => ?_, fun z => ?_⟩
  · rw [F 0 (by omega) (by omega) (by omega)]; exact a0
  · rw [F 0 (by omega) (by omega) (by omega)]; exact a1
  · rw [F 1 (by omega) (by omega) (by omega)]; exact a2
  · rw [F 2 (by omega) (by omega) (by omega)]; exact a3
  · rw [F 3 (by omega) (by omega) (by omega)]; exact a4
  · rw [F 4 (by omega) (by omega) (by omega)]; exact a5
  · rw [F 5 (by omega) (by omega) (by omega)]; exact a6
  · rw [F6]; omega
  · rw [F 2000 (by omega) (by omega) (by omega)]; exact a8
  · rw [F 2001 (by omega) (by omega) (by omega)]; exact a9
  · rw [F 1 (by omega) (by omega) (by omega)] at z
    rw [F 0 (by omega) (by omega) (by omega), F (8 + 4 * x) (by omega) (by omega) (by omega), F (8 + 4 * x + 1) (by omega) (by omega) (by omega), F (8 + 4 * x + 2) (by omega) (by omega) (by omega)]
    exact hs x z
  · rw [F _ (by omega) (by omega) (by omega)]; exact hz x z
  · rw [F 2 (by omega) (by omega) (by omega)] at z
    have gg := hh x z
    rw [F 1 (by omega) (by omega) (by omega), F (56 + 7 * x) (by omega) (by omega) (by omega), F (56 + 7 * x + 1) (by omega) (by omega) (by omega), F (56 + 7 * x + 2) (by omega) (by omega) (by omega), F (56 + 7 * x + 3) (by omega) (by omega) (by omega), F (56 + 7 * x + 4) (by omega) (by omega) (by omega), F (56 + 7 * x + 5) (by omega) (by omega) (by omega), F (56 + 7 * x + 6) (by omega) (by omega) (by omega), F (8 + 4 * D (56 + 7 * x) + 2) (by omega) (by omega) (by omega)]
    exact gg
  · rw [F 3 (by omega) (by omega) (by omega)] at z
    rw [F 0 (by omega) (by omega) (by omega), F (168 + 15 * w) (by omega) (by omega) (by omega), F (168 + 15 * w + 1) (by omega) (by omega) (by omega)]
    exact hw w z
  · rw [F _ (by omega) (by omega) (by omega)]; exact hqq w z
  · rw [F6] at z; omega
  · rw [F7]
    refine ⟨rfl, by omega, wf_wr _ _ b4, fun i hi => ?_⟩
    unfold dr
    rw [if_neg (by omega), if_pos (by omega), Nat.add_sub_cancel_left]
theorem nb_inr {r : (Nat × Nat) ⊕ (Nat × Nat)} {k : Nat → Nat → ms_ZZ} {x : Nat × (Nat → Nat) × List ms_Op} (h : pz_nb r k = Sum.inr x) : ∃ v q', r = Sum.inr (v, q') ∧ k v q' = Sum.inr x := by
  cases r with
  | inl e => unfold pz_nb at h; cases h
  | inr y => exact ⟨y.1, y.2, rfl, h⟩
theorem zb_inr {r : ms_ZZ} {k : Nat → (Nat → Nat) → List ms_Op → ms_ZZ} {x : Nat × (Nat → Nat) × List ms_Op} (h : pz_zb r k = Sum.inr x) : ∃ q' D' l', r = Sum.inr (q', D', l') ∧ k q' D' l' = Sum.inr x := by
  cases r with
  | inl e => unfold pz_zb at h; cases h
  | inr y => exact ⟨y.1, y.2.1, y.2.2, rfl, h⟩
theorem sm_ok {q q' : Nat} {l' : List ms_Op} (hN : N ≤ 900) (hq : q ≤ N) (h : pw D l) (he : pz_sm B N q D l = Sum.inr (q', D', l')) : q < q' ∧ q' ≤ N ∧ pz_at B N q' ≠ 32 ∧ pw D' l' := by
  have hpw := h
  obtain ⟨⟨a0, a1, a2, a3, a4, a5, a6, a7, a8, a9⟩, _⟩ := h
  have inj : ∀ {x y : Nat} {D1 D2 : Nat → Nat} {l1 l2 : List ms_Op}, (Sum.inr (x, D1, l1) : ms_ZZ) = Sum.inr (y, D2, l2) → x = y ∧ D1 = D2 ∧ l1 = l2 := by
    intro x y D1 D2 l1 l2 e
    have e0 := Sum.inr.inj e
    exact ⟨congrArg Prod.fst e0, congrArg (fun z => z.2.1) e0, congrArg (fun z => z.2.2) e0⟩
  unfold pz_sm at he
  by_cases c1 : pz_wd B N w_street q = true
  · rw [if_pos c1] at he
    have hle : q + 6 ≤ N := wd_pos hq (wk_mem k2) c1
    have ge := s_ge (B := B) (p := q + 6) (N := N) hle
    by_cases c : D 1 = 12
    · rw [if_pos c] at he; cases he
    · rw [if_neg c] at he
      unfold pz_st at he
      obtain ⟨a, q2, n1, he⟩ := nb_inr he
      obtain ⟨b, q3, n2, he⟩ := nb_inr he
      obtain ⟨x1, x2, x3, x4, x5, _⟩ := n_ok (s_le hle) n1
      obtain ⟨y1, y2, y3, y4, y5, _⟩ := n_ok x2 n2
      by_cases cab : b = a
      · rw [if_pos cab] at he; cases he
      · rw [if_neg cab] at he
        obtain ⟨cc, q4, n3, he⟩ := nb_inr he
        obtain ⟨z1, z2, z3, z4, z5, _⟩ := n_ok y2 n3
        obtain ⟨e1, e2, e3⟩ := inj he
        rw [← e1, ← e2, ← e3]
        exact ⟨by omega, z2, z3, st_ok hpw (by omega) x5 y5 (fun z => cab z.symm) (by omega)⟩
  · rw [if_neg c1] at he
    by_cases c2 : pz_wd B N w_house q = true
    · rw [if_pos c2] at he
      have hle : q + 5 ≤ N := wd_pos hq (wk_mem k3) c2
      have ge := s_ge (B := B) (p := q + 5) (N := N) hle
      by_cases c : D 2 = 16
      · rw [if_pos c] at he; cases he
      · rw [if_neg c] at he
        unfold pz_ho at he
        obtain ⟨s, q2, n1, he⟩ := nb_inr he
        obtain ⟨o, q3, n2, he⟩ := nb_inr he
        obtain ⟨sd, q4, n3, he⟩ := nb_inr he
        obtain ⟨p, q5, n4, he⟩ := nb_inr he
        obtain ⟨f, q6, n5, he⟩ := nb_inr he
        obtain ⟨t, q7, n6, he⟩ := nb_inr he
        obtain ⟨x1, x2, x3, x4, x5, _⟩ := n_ok (s_le hle) n1
        obtain ⟨y1, y2, y3, y4, y5, _⟩ := n_ok x2 n2
        obtain ⟨z1, z2, z3, z4, z5, _⟩ := n_ok y2 n3
        obtain ⟨u1, u2, u3, u4, u5, _⟩ := n_ok z2 n4
        obtain ⟨v1, v2, v3, v4, v5, _⟩ := n_ok u2 n5
        obtain ⟨w1, w2, w3, w4, w5, _⟩ := n_ok v2 n6
        by_cases cd : pz_wd B N w_dog q7 = true
        · rw [if_pos cd] at he
          have hle2 : q7 + 3 ≤ N := wd_pos w2 (wk_mem k4) cd
          have ge2 := s_ge (B := B) (p := q7 + 3) (N := N) hle2
          obtain ⟨e1, e2, e3⟩ := inj he
          rw [← e1, ← e2, ← e3]
          exact ⟨by omega, s_le hle2, s_ne hle2, ho_ok hpw (by omega) x5 (by omega) (by omega) (by omega) (by omega) (by omega) (by omega)⟩
        · rw [if_neg cd] at he
          obtain ⟨e1, e2, e3⟩ := inj he
          rw [← e1, ← e2, ← e3]
          exact ⟨by omega, w2, w3, ho_ok hpw (by omega) x5 (by omega) (by omega) (by omega) (by omega) (by omega) (by omega)⟩
    · rw [if_neg c2] at he
      by_cases c3 : pz_wd B N w_walker q = true
      · rw [if_pos c3] at he
        have hle : q + 6 ≤ N := wd_pos hq (wk_mem k5) c3
        have ge := s_ge (B := B) (p := q + 6) (N := N) hle
        by_cases c : D 3 = 3
        · rw [if_pos c] at he; cases he
        · rw [if_neg c] at he
          unfold pz_wa at he
          obtain ⟨a, q2, n1, he⟩ := nb_inr he
          obtain ⟨b, q3, n2, he⟩ := nb_inr he
          obtain ⟨x1, x2, x3, x4, x5, _⟩ := n_ok (s_le hle) n1
          obtain ⟨y1, y2, y3, y4, y5, _⟩ := n_ok x2 n2
          obtain ⟨e1, e2, e3⟩ := inj he
          rw [← e1, ← e2, ← e3]
          exact ⟨by omega, y2, y3, wa_ok hpw (by omega) x5 (by omega)⟩
      · rw [if_neg c3] at he
        by_cases c4 : pz_wd B N w_cross q = true
        · rw [if_pos c4] at he
          have hle : q + 5 ≤ N := wd_pos hq (wk_mem k6) c4
          have ge := s_ge (B := B) (p := q + 5) (N := N) hle
          by_cases c : D 2000 = 1
          · rw [if_pos c] at he; cases he
          · rw [if_neg c] at he
            obtain ⟨a, q2, n1, he⟩ := nb_inr he
            obtain ⟨x1, x2, x3, x4, x5, _⟩ := n_ok (s_le hle) n1
            obtain ⟨e1, e2, e3⟩ := inj he
            rw [← e1, ← e2, ← e3]
            refine ⟨by omega, x2, x3, pw_e hpw (fun k z1 z2 z3 z4 => ?_) ?_ ?_ ?_ ?_⟩
            · rw [u_at, if_neg z1, u_at, if_neg z3]
            · rw [u_at, if_pos rfl]; omega
            · rw [u_at, if_neg (by omega), u_at, if_neg (by omega)]; exact a6
            · rw [u_at, if_neg (by omega), u_at, if_pos rfl]; omega
            · rw [u_at, if_neg (by omega), u_at, if_neg (by omega)]; exact a9
        · rw [if_neg c4] at he
          by_cases c5 : pz_wd B N w_gap q = true
          · rw [if_pos c5] at he
            have hle : q + 3 ≤ N := wd_pos hq (wk_mem k7) c5
            have ge := s_ge (B := B) (p := q + 3) (N := N) hle
            by_cases c : D 2001 = 1
            · rw [if_pos c] at he; cases he
            · rw [if_neg c] at he
              obtain ⟨a, q2, n1, he⟩ := nb_inr he
              obtain ⟨x1, x2, x3, x4, x5, _⟩ := n_ok (s_le hle) n1
              obtain ⟨e1, e2, e3⟩ := inj he
              rw [← e1, ← e2, ← e3]
              refine ⟨by omega, x2, x3, pw_e hpw (fun k z1 z2 z3 z4 => ?_) ?_ ?_ ?_ ?_⟩
              · rw [u_at, if_neg z2, u_at, if_neg z4]
              · rw [u_at, if_neg (by omega), u_at, if_neg (by omega)]; exact a5
              · rw [u_at, if_pos rfl]; omega
              · rw [u_at, if_neg (by omega), u_at, if_neg (by omega)]; exact a8
              · rw [u_at, if_neg (by omega), u_at, if_pos rfl]; omega
          · rw [if_neg c5] at he
            by_cases c6 : pz_wd B N w_visit q = true
            · rw [if_pos c6] at he
              have hle : q + 5 ≤ N := wd_pos hq (wk_mem k8) c6
              have ge := s_ge (B := B) (p := q + 5) (N := N) hle
              by_cases c : D 6 = 1
              · rw [if_pos c] at he; cases he
              · rw [if_neg c] at he
                unfold pz_vi at he
                cases hS : pz_S B N 6 0 (pz_s B N (q + 5)) [] with
                | inl e => rw [hS] at he; cases he
                | inr x =>
                  rw [hS] at he
                  obtain ⟨e1, e2, e3⟩ := inj he
                  rw [← e1, ← e2, ← e3]
                  obtain ⟨y1, y2, y3, y4⟩ := vi_ok (D := D) hpw (by omega) (s_le hle) hN hS
                  exact ⟨by omega, y2, y3, y4⟩
            · rw [if_neg c6] at he
              cases he
end PWS
