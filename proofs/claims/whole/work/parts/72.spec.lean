/-! ===== WHAT IS ANSWERED: the town as one row of numbers D (the reference's), its visit expression as a list l ===== -/
abbrev ms_Op : Type := Nat × Nat
def sp_fl : List ms_Op → List Nat
  | [] => []
  | (k, v) :: l => if k ≤ 1 then k :: v :: sp_fl l else k :: sp_fl l
/-- the heights of the stack: never under two at an operation, never over sixteen, one at the end -/
def sp_wf : List ms_Op → Nat → Prop
  | [], h => h = 1
  | (k, v) :: l, h => if k ≤ 1 then h < 16 ∧ v < 10000 ∧ sp_wf l (h + 1) else 2 ≤ h ∧ k ≤ 5 ∧ sp_wf l (h - 1)
def sp_cl (x : Int) : Int := if 1000000 < x then 1000000 else if x < -1000000 then -1000000 else x
def sp_op (k : Nat) (x y : Int) : Int := if k = 5 then (if y = 0 then 0 else x.tdiv y) else sp_cl (if k = 2 then x + y else if k = 3 then x - y else x * y)
/-- the stack, its top first -/
def sp_ev (p g c : Nat) : List ms_Op → List Int → List Int
  | [], st => st
  | (k, v) :: l, st => if k = 0 then sp_ev p g c l ((v : Int) :: st) else if k = 1 then sp_ev p g c l (((if v = 0 then p else if v = 1 then g else c : Nat) : Int) :: st) else match st with
    | y :: x :: r => sp_ev p g c l (sp_op k x y :: r)
    | r => sp_ev p g c l r
def sp_min (x : Int) : Nat := if x < 1 then 1 else if 240 < x then 240 else x.toNat
def sp_vis (D : Nat → Nat) (l : List ms_Op) (h g c : Nat) : Nat := if D 6 = 0 then 10 else sp_min ((sp_ev (D (56 + 7 * h + 3)) g c l []).headD 0)
/-- a town that a text can have -/
def sp_V (D : Nat → Nat) (l : List ms_Op) : Prop :=
  (D 0 ≤ 10 ∧ D 1 ≤ 12 ∧ D 2 ≤ 16 ∧ D 3 ≤ 3 ∧ D 4 ≤ 9 ∧ D 5 ≤ 600 ∧ D 6 ≤ 1)
  ∧ (∀ s, s < D 1 → D (8 + 4 * s) < D 0 ∧ D (8 + 4 * s + 1) < D 0 ∧ D (8 + 4 * s) ≠ D (8 + 4 * s + 1) ∧ 1 ≤ D (8 + 4 * s + 2) ∧ D (8 + 4 * s + 2) ≤ 99 ∧ D (8 + 4 * s + 3) ≤ 1)
  ∧ (∀ h, h < D 2 → D (56 + 7 * h) < D 1 ∧ D (56 + 7 * h + 1) ≤ D (8 + 4 * D (56 + 7 * h) + 2) ∧ D (56 + 7 * h + 2) ≤ 1 ∧ D (56 + 7 * h + 3) ≤ 20 ∧ D (56 + 7 * h + 4) < D (56 + 7 * h + 5) ∧ D (56 + 7 * h + 5) ≤ 1440 ∧ D (56 + 7 * h + 6) ≤ 1)
  ∧ (∀ w, w < D 3 → D (168 + 15 * w) < D 0 ∧ D (168 + 15 * w + 1) ≤ 1440 ∧ D (168 + 15 * w + 2) ≤ 12 ∧ ∀ k, k < D (168 + 15 * w + 2) → D (168 + 15 * w + 3 + k) < D 2)
  ∧ (D 6 = 1 → D 7 = (sp_fl l).length ∧ D 7 ≤ 1400 ∧ sp_wf l 0 ∧ ∀ i, i < D 7 → D (213 + i) = (sp_fl l).getD i 0)
/-- the class's town: T i is the row of its cell i -/
def sp_R (T : Nat → Nat → Int32) (D : Nat → Nat) (l : List ms_Op) : Prop :=
  (T 0 0 = nI (D 0) ∧ T 0 1 = nI (D 4) ∧ (0 < D 3 → T 0 2 = nI (D 5)) ∧ T 1 0 = nI (D 1) ∧ T 6 0 = nI (D 2) ∧ T 15 0 = nI (D 3))
  ∧ (∀ s, s < D 1 → T 2 s = nI (D (8 + 4 * s)) ∧ T 3 s = nI (D (8 + 4 * s + 1)) ∧ T 4 s = nI (D (8 + 4 * s + 2)) ∧ T 5 s = nI (1 - D (8 + 4 * s + 3)))
  ∧ (∀ h, h < D 2 → T 7 h = nI (D (56 + 7 * h)) ∧ T 8 h = nI (D (56 + 7 * h + 1)) ∧ T 9 h = nI (D (56 + 7 * h + 2)) ∧ T 10 h = nI (D (56 + 7 * h + 3)) ∧ T 11 h = nI (D (56 + 7 * h + 4)) ∧ T 12 h = nI (D (56 + 7 * h + 5)) ∧ T 13 h = nI (D (56 + 7 * h + 6)) ∧ ∀ g c, g < 2 → c < 2 → T 14 (h * 4 + 2 * g + c) = nI (sp_vis D l h g (c + 1)))
  ∧ (∀ w, w < D 3 → T 16 w = nI (D (168 + 15 * w)) ∧ T 17 w = nI (D (168 + 15 * w + 1)) ∧ T 18 w = nI (D (168 + 15 * w + 2)) ∧ ∀ k, k < D (168 + 15 * w + 2) → T 19 (w * 12 + k) = nI (D (168 + 15 * w + 3 + k)))
/-! the ways -/
def sp_wS (D : Nat → Nat) (M : Nat → Nat → Nat) : Nat → Nat → Nat → Nat
  | 0 => M
  | j + 1 => if D (8 + 4 * j + 3) = 1 then sp_wS D M j else ms_u2 (ms_u2 (sp_wS D M j) (D (8 + 4 * j)) (D (8 + 4 * j + 1)) (min (sp_wS D M j (D (8 + 4 * j)) (D (8 + 4 * j + 1))) (D (8 + 4 * j + 2)))) (D (8 + 4 * j + 1)) (D (8 + 4 * j)) (min (sp_wS D M j (D (8 + 4 * j)) (D (8 + 4 * j + 1))) (D (8 + 4 * j + 2)))
def sp_wB (M : Nat → Nat → Nat) (k a : Nat) : Nat → Nat → Nat → Nat
  | 0 => M
  | j + 1 => ms_u2 (sp_wB M k a j) a j (min (sp_wB M k a j a j) (sp_wB M k a j a k + sp_wB M k a j k j))
def sp_wA (n : Nat) (M : Nat → Nat → Nat) (k : Nat) : Nat → Nat → Nat → Nat
  | 0 => M
  | j + 1 => sp_wB (sp_wA n M k j) k j n
def sp_wK (n : Nat) (M : Nat → Nat → Nat) : Nat → Nat → Nat → Nat
  | 0 => M
  | j + 1 => sp_wA n (sp_wK n M j) j n
def sp_W0 : Nat → Nat → Nat := fun a b => if a = b then 0 else 1000000
def sp_W (D : Nat → Nat) : Nat → Nat → Nat := sp_wK (D 0) (sp_wS D sp_W0 (D 1)) (D 0)
def sp_fc (D : Nat → Nat) (c h : Nat) : Nat := if D (8 + 4 * D (56 + 7 * h) + 3) = 1 then 1000000 else min (sp_W D c (D (8 + 4 * D (56 + 7 * h))) + D (56 + 7 * h + 1)) (sp_W D c (D (8 + 4 * D (56 + 7 * h) + 1)) + (D (8 + 4 * D (56 + 7 * h) + 2) - D (56 + 7 * h + 1)))
def sp_bt (D : Nat → Nat) (g h : Nat) : Nat := if g = h then 0 else if D (8 + 4 * D (56 + 7 * g) + 3) = 1 ∨ D (8 + 4 * D (56 + 7 * h) + 3) = 1 then 1000000 else
  if D (56 + 7 * g) = D (56 + 7 * h) then min (min (D (56 + 7 * g + 1) + sp_fc D (D (8 + 4 * D (56 + 7 * g))) h) (D (8 + 4 * D (56 + 7 * g) + 2) - D (56 + 7 * g + 1) + sp_fc D (D (8 + 4 * D (56 + 7 * g) + 1)) h)) (D (56 + 7 * g + 1) - D (56 + 7 * h + 1) + (D (56 + 7 * h + 1) - D (56 + 7 * g + 1))) + (if D (56 + 7 * g + 2) = D (56 + 7 * h + 2) then 0 else D 4)
  else min (D (56 + 7 * g + 1) + sp_fc D (D (8 + 4 * D (56 + 7 * g))) h) (D (8 + 4 * D (56 + 7 * g) + 2) - D (56 + 7 * g + 1) + sp_fc D (D (8 + 4 * D (56 + 7 * g) + 1)) h)
/-- told -/
def sp_td (x : Nat) : Int32 := if x < 1000000 then nI x else NO
/-! the simulation: S 0 times, 1 places (0 the start, h + 1 house h), 2 done, 3 results, 4 arrivals, 5 calls, 6 called at, 7 0 the counted set -/
def sp_wy (D : Nat → Nat) (S : Nat → Nat → Nat) (w h : Nat) : Nat := if S 1 w = 0 then sp_fc D (D (168 + 15 * w)) h else sp_bt D (S 1 w - 1) h
def sp_nh (D : Nat → Nat) (S : Nat → Nat → Nat) (w : Nat) : Nat := D (168 + 15 * w + 3 + S 2 w)
def sp_na (D : Nat → Nat) (S : Nat → Nat → Nat) (w : Nat) : Nat := S 0 w + (if sp_wy D S w (sp_nh D S w) < 1000000 then sp_wy D S w (sp_nh D S w) else 0)
def sp_go (D : Nat → Nat) (l : List ms_Op) (S : Nat → Nat → Nat) (w : Nat) : Nat → Nat → Nat :=
  if sp_wy D S w (sp_nh D S w) < 1000000 then
    (if (S 7 0).testBit (sp_nh D S w) then ms_u2 (ms_u2 (ms_u2 (ms_u2 (ms_u2 S 2 w (S 2 w + 1)) 4 (w * 12 + S 2 w) (sp_na D S w)) 0 w (sp_na D S w)) 1 w (sp_nh D S w + 1)) 3 (w * 12 + S 2 w) 2
    else if S 5 (sp_nh D S w) = 2 ∨ (S 5 (sp_nh D S w) = 1 ∧ sp_na D S w < S 6 (sp_nh D S w) + D 5) then ms_u2 (ms_u2 (ms_u2 (ms_u2 (ms_u2 S 2 w (S 2 w + 1)) 4 (w * 12 + S 2 w) (sp_na D S w)) 0 w (sp_na D S w)) 1 w (sp_nh D S w + 1)) 3 (w * 12 + S 2 w) 3
    else if D (56 + 7 * sp_nh D S w + 4) ≤ sp_na D S w ∧ sp_na D S w < D (56 + 7 * sp_nh D S w + 5) then
      ms_u2 (ms_u2 (ms_u2 (ms_u2 (ms_u2 (ms_u2 (ms_u2 (ms_u2 S 2 w (S 2 w + 1)) 4 (w * 12 + S 2 w) (sp_na D S w)) 0 w (sp_na D S w + sp_vis D l (sp_nh D S w) (D (56 + 7 * sp_nh D S w + 6)) (S 5 (sp_nh D S w) + 1))) 1 w (sp_nh D S w + 1)) 3 (w * 12 + S 2 w) 0) 5 (sp_nh D S w) (S 5 (sp_nh D S w) + 1)) 6 (sp_nh D S w) (sp_na D S w)) 7 0 (S 7 0 ||| 2 ^ sp_nh D S w)
    else ms_u2 (ms_u2 (ms_u2 (ms_u2 (ms_u2 (ms_u2 (ms_u2 S 2 w (S 2 w + 1)) 4 (w * 12 + S 2 w) (sp_na D S w)) 0 w (sp_na D S w + 1)) 1 w (sp_nh D S w + 1)) 3 (w * 12 + S 2 w) 1) 5 (sp_nh D S w) (S 5 (sp_nh D S w) + 1)) 6 (sp_nh D S w) (sp_na D S w))
  else ms_u2 (ms_u2 (ms_u2 S 2 w (S 2 w + 1)) 4 (w * 12 + S 2 w) (S 0 w)) 3 (w * 12 + S 2 w) 4
/-- who arrives first: 0 nobody, w + 1 walker w -/
def sp_nx (D : Nat → Nat) (S : Nat → Nat → Nat) : Nat → Nat
  | 0 => 0
  | j + 1 => if S 2 j < D (168 + 15 * j + 2) ∧ (sp_nx D S j = 0 ∨ sp_na D S j < sp_na D S (sp_nx D S j - 1)) then j + 1 else sp_nx D S j
def sp_sm (D : Nat → Nat) (l : List ms_Op) : Nat → (Nat → Nat → Nat) → Nat → Nat → Nat
  | 0, S => S
  | n + 1, S => if sp_nx D S (D 3) = 0 then S else sp_sm D l n (sp_go D l S (sp_nx D S (D 3) - 1))
def sp_S0 (D : Nat → Nat) : Nat → Nat → Nat := fun i w => if i = 0 then D (168 + 15 * w + 1) else 0
def sp_S (D : Nat → Nat) (l : List ms_Op) : Nat → Nat → Nat := sp_sm D l 36 (sp_S0 D)
/-! what holds between two calls -/
def sp_M (u : ms_St) (c : Nat) (D : Nat → Nat) : Prop := ∀ k, k < 1613 → ms_I u c k = nI (D k)
def sp_T (u : ms_St) (t : Nat) : Nat → Nat → Int32 := fun i => ms_I u (t + i)
def sp_cw (u : ms_St) (D : Nat → Nat) : Prop := ∀ a b, a < D 0 → b < D 0 → ms_I u 50 (a * 10 + b) = nI (sp_W D a b)
def sp_cs (u : ms_St) (D : Nat → Nat) (l : List ms_Op) : Prop :=
  (∀ w, w < D 3 → ms_I u 54 w = nI (sp_S D l 0 w) ∧ ∀ k, k < D (168 + 15 * w + 2) → ms_I u 52 (w * 12 + k) = nI (sp_S D l 3 (w * 12 + k)) ∧ ms_I u 53 (w * 12 + k) = nI (sp_S D l 4 (w * 12 + k)))
  ∧ (∀ h, h < D 2 → ms_I u 55 h = nI (sp_S D l 5 h)) ∧ ms_I u 51 4 = nI (sp_S D l 7 0)
def sp_Pa (u : ms_St) (n q : Nat) (P : Nat → Nat → Nat) (Q : Nat → List ms_Op) : Prop := n ≤ 8 ∧ q < 8 ∧ ms_I u 0 5 = nI q ∧ ms_I u 0 6 = nI n ∧ ms_I u 233 11 = nI n ∧ ∀ j, j < n → sp_V (P j) (Q j) ∧ sp_M u (238 + j) (P j) ∧ sp_R (sp_T u (73 + 20 * ((q + j) % 8))) (P j) (Q j)
def sp_Bu (u : ms_St) (bl : Nat) : Prop := bl ≤ 900 ∧ ms_I u 0 1 = nI bl ∧ ms_I u 233 2 = nI bl ∧ ∀ k, k < bl → ∃ c, c < 256 ∧ ms_I u 234 k = nI c ∧ ms_I u 1 k = (nI c).toInt8.toInt32
/-- all but the caches -/
def sp_I0 (u : ms_St) (D : Nat → Nat) (l : List ms_Op) : Prop := sp_V D l ∧ sp_M u 235 D ∧ sp_R (sp_T u 2) D l ∧ (∃ n q P Q, sp_Pa u n q P Q) ∧ (∃ bl, sp_Bu u bl) ∧ ms_I u 0 2 = ms_I u 233 7
def sp_Ca (u : ms_St) (D : Nat → Nat) (l : List ms_Op) : Prop := (¬ ms_I u 0 11 = 0 → sp_cw u D) ∧ (¬ ms_I u 0 12 = 0 → sp_cs u D l)
def sp_Inv (u : ms_St) : Prop := ∃ D l, sp_I0 u D l ∧ sp_Ca u D l
/-! what a question leaves as it was -/
def sp_Kp (a b : Nat) : Prop := (a = 0 ∧ (b = 1 ∨ b = 2 ∨ b = 5 ∨ b = 6)) ∨ (1 ≤ a ∧ a ≤ 22) ∨ (73 ≤ a ∧ a ≤ 232) ∨ (a = 233 ∧ (b = 2 ∨ b = 7 ∨ b = 11)) ∨ a = 234 ∨ a = 235 ∨ (238 ≤ a ∧ a ≤ 245)
def sp_Kc (a b : Nat) : Prop := (a = 0 ∧ (b = 11 ∨ b = 12)) ∨ a = 50 ∨ (51 ≤ a ∧ a ≤ 59)
def sp_K (u u' : ms_St) : Prop := ∀ a b, sp_Kp a b → ms_I u' a b = ms_I u a b
/-- the class asks: its caches may move, nothing of the reference does -/
def sp_KC (u u' : ms_St) : Prop := ∀ a b, sp_Kp a b ∨ 233 ≤ a → ms_I u' a b = ms_I u a b
/-- the reference asks -/
def sp_KM (u u' : ms_St) : Prop := (∀ a b, sp_Kp a b ∨ sp_Kc a b → ms_I u' a b = ms_I u a b) ∧ ∀ b, ms_J u' 529 b = ms_J u 529 b
theorem sp_R_eq {T T' : Nat → Nat → Int32} {D : Nat → Nat} {l : List ms_Op} (h : ∀ i b, i < 20 → T' i b = T i b) (hR : sp_R T D l) : sp_R T' D l := by
  unfold sp_R at *
  simp only [h _ _ (show 0 < 20 by omega), h _ _ (show 1 < 20 by omega), h _ _ (show 2 < 20 by omega), h _ _ (show 3 < 20 by omega), h _ _ (show 4 < 20 by omega), h _ _ (show 5 < 20 by omega), h _ _ (show 6 < 20 by omega), h _ _ (show 7 < 20 by omega), h _ _ (show 8 < 20 by omega), h _ _ (show 9 < 20 by omega), h _ _ (show 10 < 20 by omega), h _ _ (show 11 < 20 by omega), h _ _ (show 12 < 20 by omega), h _ _ (show 13 < 20 by omega), h _ _ (show 14 < 20 by omega), h _ _ (show 15 < 20 by omega), h _ _ (show 16 < 20 by omega), h _ _ (show 17 < 20 by omega), h _ _ (show 18 < 20 by omega), h _ _ (show 19 < 20 by omega)]
  exact hR
theorem sp_M_eq {u u' : ms_St} {c : Nat} {D : Nat → Nat} (h : ∀ b, ms_I u' c b = ms_I u c b) (hM : sp_M u c D) : sp_M u' c D := fun k hk => by rw [h]; exact hM k hk
theorem sp_I0_K {u u' : ms_St} {D : Nat → Nat} {l : List ms_Op} (h : sp_I0 u D l) (hK : sp_K u u') : sp_I0 u' D l := by
  obtain ⟨hV, hM, hR, ⟨n, q, P, Q, hn, hq, e5, e6, e11, hP⟩, ⟨bl, hbl, b1, b2, hB⟩, he⟩ := h
  have k0 : ∀ b, (b = 1 ∨ b = 2 ∨ b = 5 ∨ b = 6) → ms_I u' 0 b = ms_I u 0 b := fun b hb => hK 0 b (Or.inl ⟨rfl, hb⟩)
  have k1 : ∀ b, (b = 2 ∨ b = 7 ∨ b = 11) → ms_I u' 233 b = ms_I u 233 b := fun b hb => hK 233 b (Or.inr (Or.inr (Or.inr (Or.inl ⟨rfl, hb⟩))))
  have kt : ∀ a b, (1 ≤ a ∧ a ≤ 22) → ms_I u' a b = ms_I u a b := fun a b hb => hK a b (Or.inr (Or.inl hb))
  have kp : ∀ a b, (73 ≤ a ∧ a ≤ 232) → ms_I u' a b = ms_I u a b := fun a b hb => hK a b (Or.inr (Or.inr (Or.inl hb)))
  have km : ∀ a b, (a = 234 ∨ a = 235 ∨ (238 ≤ a ∧ a ≤ 245)) → ms_I u' a b = ms_I u a b := fun a b hb => hK a b (Or.inr (Or.inr (Or.inr (Or.inr hb))))
  refine ⟨hV, sp_M_eq (fun b => km 235 b (by omega)) hM, sp_R_eq (fun i b hi => kt (2 + i) b (by omega)) hR, ⟨n, q, P, Q, hn, hq, ?_, ?_, ?_, fun j hj => ?_⟩, ⟨bl, hbl, ?_, ?_, fun k hk => ?_⟩, ?_⟩
  · rw [k0 5 (by simp), e5]
  · rw [k0 6 (by simp), e6]
  · rw [k1 11 (by simp), e11]
  · obtain ⟨v, m, r⟩ := hP j hj
    exact ⟨v, sp_M_eq (fun b => km _ b (by omega)) m, sp_R_eq (fun i b hi => kp _ b (by omega)) r⟩
  · rw [k0 1 (by simp), b1]
  · rw [k1 2 (by simp), b2]
  · obtain ⟨c, hc, e1, e2⟩ := hB k hk
    exact ⟨c, hc, by rw [km 234 k (by simp), e1], by rw [kt 1 k (by simp), e2]⟩
  · rw [k0 2 (by simp), k1 7 (by simp), he]
theorem sp_Ca_eq {u u' : ms_St} {D : Nat → Nat} {l : List ms_Op} (h : sp_Ca u D l) (hK : ∀ a b, sp_Kc a b → ms_I u' a b = ms_I u a b) : sp_Ca u' D l := by
  have e11 := hK 0 11 (Or.inl ⟨rfl, Or.inl rfl⟩)
  have e12 := hK 0 12 (Or.inl ⟨rfl, Or.inr rfl⟩)
  have e50 : ∀ b, ms_I u' 50 b = ms_I u 50 b := fun b => hK 50 b (Or.inr (Or.inl rfl))
  have e5 : ∀ a b, (51 ≤ a ∧ a ≤ 59) → ms_I u' a b = ms_I u a b := fun a b h => hK a b (Or.inr (Or.inr h))
  refine ⟨fun q => ?_, fun q => ?_⟩
  · rw [e11] at q
    intro a b ha hb
    rw [e50]
    exact h.1 q a b ha hb
  · rw [e12] at q
    obtain ⟨h1, h2, h3⟩ := h.2 q
    refine ⟨fun w hw => ⟨?_, fun k hk => ⟨?_, ?_⟩⟩, fun i hi => ?_, ?_⟩
    · rw [e5 54 w (by omega)]; exact (h1 w hw).1
    · rw [e5 52 _ (by omega)]; exact ((h1 w hw).2 k hk).1
    · rw [e5 53 _ (by omega)]; exact ((h1 w hw).2 k hk).2
    · rw [e5 55 _ (by omega)]; exact h2 i hi
    · rw [e5 51 _ (by omega)]; exact h3
/-- a question: the class, then the reference -/
theorem sp_Inv_q {u u1 u2 : ms_St} {D : Nat → Nat} {l : List ms_Op} (h : sp_I0 u D l) (h1 : sp_KC u u1) (hc : sp_Ca u1 D l) (h2 : sp_KM u1 u2) : sp_Inv u2 :=
  ⟨D, l, sp_I0_K h (fun a b q => (h2.1 a b (Or.inl q)).trans (h1 a b (Or.inl q))), sp_Ca_eq hc (fun a b q => h2.1 a b (Or.inr q))⟩
theorem sp_KC_refl {u : ms_St} : sp_KC u u := fun _ _ _ => rfl
theorem sp_KM_refl {u : ms_St} : sp_KM u u := ⟨fun _ _ _ => rfl, fun _ => rfl⟩
theorem sp_KC_tr {u v w : ms_St} (h : sp_KC u v) (h2 : sp_KC v w) : sp_KC u w := fun a b q => (h2 a b q).trans (h a b q)
theorem sp_KM_tr {u v w : ms_St} (h : sp_KM u v) (h2 : sp_KM v w) : sp_KM u w := ⟨fun a b q => (h2.1 a b q).trans (h.1 a b q), fun b => (h2.2 b).trans (h.2 b)⟩
theorem sp_KM_t {u v : ms_St} (h : sp_KM u v) {k : Nat} {x : Int32} (hk : k ≠ 2 ∧ k ≠ 7 ∧ k ≠ 11) : sp_KM u (ms_sI v 233 k x) := by
  refine ⟨fun a b q => ?_, fun b => h.2 b⟩
  rw [I_sI, if_neg, h.1 a b q]
  rintro ⟨rfl, rfl⟩
  unfold sp_Kp sp_Kc at q
  omega
theorem sp_KM_r {u v : ms_St} (h : sp_KM u v) {o k : Nat} {x : Int32} (ho : 246 ≤ o ∨ o = 236) : sp_KM u (ms_sI v o k x) := by
  refine ⟨fun a b q => ?_, fun b => h.2 b⟩
  rw [I_sI, if_neg, h.1 a b q]
  rintro ⟨rfl, rfl⟩
  unfold sp_Kp sp_Kc at q
  omega
theorem sp_KC_sJ {u v : ms_St} (h : sp_KC u v) {k : Nat} {x : Int64} : sp_KC u (ms_sJ v 529 k x) := h
theorem sp_KC_r {u v : ms_St} (h : sp_KC u v) {o k : Nat} {x : Int32} (ho : 23 ≤ o ∧ o ≤ 72) : sp_KC u (ms_sI v o k x) := by
  intro a b q
  rw [I_sI, if_neg, h a b q]
  rintro ⟨rfl, rfl⟩
  unfold sp_Kp at q
  omega
theorem sp_KC_0 {u v : ms_St} (h : sp_KC u v) {k : Nat} {x : Int32} (hk : k = 11 ∨ k = 12) : sp_KC u (ms_sI v 0 k x) := by
  intro a b q
  rw [I_sI, if_neg, h a b q]
  rintro ⟨rfl, rfl⟩
  unfold sp_Kp at q
  omega
