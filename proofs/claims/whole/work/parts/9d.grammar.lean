/-! ===== the grammar of a visit: what is answered ===== -/
abbrev ms_V : Type := (Nat × Nat) ⊕ (Nat × List ms_Op)
def pz_n (B : Nat → Nat) (N q lo hx : Nat) : (Nat × Nat) ⊕ (Nat × Nat) := if 48 ≤ pz_at B N q ∧ pz_at B N q ≤ 57 then (if lo ≤ (pz_nd B N q 0).2 ∧ (pz_nd B N q 0).2 < hx then Sum.inr ((pz_nd B N q 0).2, pz_s B N (pz_nd B N q 0).1) else Sum.inl (3, q)) else Sum.inl (2, q)
def pz_x (B : Nat → Nat) (N a q : Nat) (l : List ms_Op) : ms_V := if pz_at B N q = a then Sum.inr (pz_s B N (q + 1), l) else Sum.inl (2, q)
def pz_bd (r : ms_V) (k : Nat → List ms_Op → ms_V) : ms_V := match r with
  | Sum.inl e => Sum.inl e
  | Sum.inr x => k x.1 x.2
def pz_fa (B : Nat → Nat) (N : Nat) (R : Nat → List ms_Op → ms_V) (d q : Nat) (l : List ms_Op) : ms_V :=
  if pz_at B N q = 40 then (if d = 4 then Sum.inl (5, q) else pz_bd (R (pz_s B N (q + 1)) l) (pz_x B N 41))
  else if pz_wd B N w_persons q = true then Sum.inr (pz_s B N (q + 7), l ++ [(1, 0)])
  else if pz_wd B N w_dog q = true then Sum.inr (pz_s B N (q + 3), l ++ [(1, 1)])
  else if pz_wd B N w_call q = true then Sum.inr (pz_s B N (q + 4), l ++ [(1, 2)])
  else match pz_n B N q 0 10000 with
    | Sum.inl e => Sum.inl e
    | Sum.inr x => Sum.inr (x.2, l ++ [(0, x.1)])
def pz_tl (B : Nat → Nat) (N : Nat) (F : Nat → List ms_Op → ms_V) (a b k1 k2 : Nat) : Nat → Nat → List ms_Op → ms_V
  | 0 => fun q l => Sum.inr (q, l)
  | n + 1 => fun q l => if pz_at B N q = a ∨ pz_at B N q = b then pz_bd (F (pz_s B N (q + 1)) l) (fun q' l' => pz_tl B N F a b k1 k2 n q' (l' ++ [(if pz_at B N q = a then k1 else k2, 0)])) else Sum.inr (q, l)
def pz_te (B : Nat → Nat) (N : Nat) (R : Nat → List ms_Op → ms_V) (d q : Nat) (l : List ms_Op) : ms_V := pz_bd (pz_fa B N R d q l) (pz_tl B N (pz_fa B N R d) 42 47 4 5 (N + 1))
def pz_su (B : Nat → Nat) (N : Nat) (R : Nat → List ms_Op → ms_V) (d q : Nat) (l : List ms_Op) : ms_V := pz_bd (pz_te B N R d q l) (pz_tl B N (pz_te B N R d) 43 45 2 3 (N + 1))
def pz_S (B : Nat → Nat) (N : Nat) : Nat → Nat → Nat → List ms_Op → ms_V
  | 0 => fun _ q _ => Sum.inl (2, q)
  | k + 1 => fun d q l => pz_su B N (pz_S B N k (d + 1)) d q l
def na : List ms_Op → Nat
  | [] => 0
  | x :: l => (if x.1 ≤ 1 then 1 else 0) + na l
def nb : List ms_Op → Nat
  | [] => 0
  | x :: l => (if x.1 ≤ 1 then 0 else 1) + nb l
def wr : List ms_Op → Nat → Nat → Prop
  | [], h, h' => h = h'
  | x :: l, h, h' => if x.1 ≤ 1 then h < 16 ∧ x.2 < 10000 ∧ wr l (h + 1) h' else 2 ≤ h ∧ x.1 ≤ 5 ∧ wr l (h - 1) h'
theorem tl_s {B : Nat → Nat} {N : Nat} {F : Nat → List ms_Op → ms_V} {a b k1 k2 n q : Nat} {l : List ms_Op} : pz_tl B N F a b k1 k2 (n + 1) q l = if pz_at B N q = a ∨ pz_at B N q = b then pz_bd (F (pz_s B N (q + 1)) l) (fun q' l' => pz_tl B N F a b k1 k2 n q' (l' ++ [(if pz_at B N q = a then k1 else k2, 0)])) else Sum.inr (q, l) := rfl
theorem wr_app : ∀ (l m : List ms_Op) (a b c : Nat), wr l a b → wr m b c → wr (l ++ m) a c
  | [], m, a, b, c, h, h2 => by
    have : a = b := h
    rw [this]; exact h2
  | x :: l, m, a, b, c, h, h2 => by
    show (if x.1 ≤ 1 then a < 16 ∧ x.2 < 10000 ∧ wr (l ++ m) (a + 1) c else 2 ≤ a ∧ x.1 ≤ 5 ∧ wr (l ++ m) (a - 1) c)
    unfold wr at h
    by_cases q : x.1 ≤ 1
    · rw [if_pos q] at h ⊢
      exact ⟨h.1, h.2.1, wr_app l m _ b c h.2.2 h2⟩
    · rw [if_neg q] at h ⊢
      exact ⟨h.1, h.2.1, wr_app l m _ b c h.2.2 h2⟩
theorem na_app : ∀ (l m : List ms_Op), na (l ++ m) = na l + na m
  | [], m => by simp [na]
  | x :: l, m => by
    show (if x.1 ≤ 1 then 1 else 0) + na (l ++ m) = (if x.1 ≤ 1 then 1 else 0) + na l + na m
    rw [na_app l m]
    omega
theorem wr_cnt : ∀ (l : List ms_Op) (a b : Nat), wr l a b → a + na l = b + nb l
  | [], a, b, h => by
    have : a = b := h
    simp [na, nb, this]
  | x :: l, a, b, h => by
    unfold wr at h
    unfold na nb
    by_cases q : x.1 ≤ 1
    · rw [if_pos q] at h
      rw [if_pos q, if_pos q]
      have := wr_cnt l _ b h.2.2
      omega
    · rw [if_neg q] at h
      rw [if_neg q, if_neg q]
      have := wr_cnt l _ b h.2.2
      omega
theorem len_ab : ∀ (l : List ms_Op), l.length = na l + nb l
  | [] => rfl
  | x :: l => by
    have := len_ab l
    unfold na nb
    simp only [List.length_cons]
    split <;> omega
theorem fl_len : ∀ (l : List ms_Op), (sp_fl l).length = 2 * na l + nb l
  | [] => rfl
  | (k, v) :: l => by
    have := fl_len l
    unfold sp_fl na nb
    dsimp only
    split
    · simp only [List.length_cons]; omega
    · simp only [List.length_cons]; omega
theorem fl_app : ∀ (l m : List ms_Op), sp_fl (l ++ m) = sp_fl l ++ sp_fl m
  | [], m => rfl
  | (k, v) :: l, m => by
    have := fl_app l m
    show (if k ≤ 1 then k :: v :: sp_fl (l ++ m) else k :: sp_fl (l ++ m)) = (if k ≤ 1 then k :: v :: sp_fl l else k :: sp_fl l) ++ sp_fl m
    rw [this]
    split <;> simp
theorem wf_wr : ∀ (l : List ms_Op) (h : Nat), wr l h 1 → sp_wf l h
  | [], h, q => q
  | (k, v) :: l, h, q => by
    unfold wr at q
    unfold sp_wf
    dsimp only at q
    by_cases c : k ≤ 1
    · rw [if_pos c] at q ⊢
      exact ⟨q.1, q.2.1, wf_wr l _ q.2.2⟩
    · rw [if_neg c] at q ⊢
      exact ⟨q.1, q.2.1, wf_wr l _ q.2.2⟩
section GI
variable {B : Nat → Nat} {N : Nat}
def pj (l : List ms_Op) (q h : Nat) : Prop := wr l 0 h ∧ 2 * na l ≤ q
def pi_ok (B : Nat → Nat) (N : Nat) (r : ms_V) (q h : Nat) : Prop := ∀ q' l', r = Sum.inr (q', l') → q < q' ∧ q' ≤ N ∧ pz_at B N q' ≠ 32 ∧ wr l' 0 (h + 1) ∧ 2 * na l' ≤ q' + 1
theorem n_ok {q lo hx v q' : Nat} (hq : q ≤ N) (h : pz_n B N q lo hx = Sum.inr (v, q')) : q < q' ∧ q' ≤ N ∧ pz_at B N q' ≠ 32 ∧ lo ≤ v ∧ v < hx ∧ (48 ≤ pz_at B N q ∧ pz_at B N q ≤ 57) ∧ v = (pz_nd B N q 0).2 ∧ q' = pz_s B N (pz_nd B N q 0).1 := by
  unfold pz_n at h
  by_cases c : 48 ≤ pz_at B N q ∧ pz_at B N q ≤ 57
  · rw [if_pos c] at h
    have hqN : q < N := by
      by_cases z : q < N
      · exact z
      · rw [at_ge (by omega)] at c; omega
    obtain ⟨g1, g2⟩ := nd_all (B := B) (N := N) (N - (q + 1)) (q + 1) (pz_cv 0 (pz_at B N q - 48)) rfl (by omega)
    have ge := s_ge (B := B) (p := (pz_nd B N q 0).1) (N := N) (by rw [nd_step c]; exact g2)
    have le := s_le (B := B) (p := (pz_nd B N q 0).1) (N := N) (by rw [nd_step c]; exact g2)
    have ne := s_ne (B := B) (p := (pz_nd B N q 0).1) (N := N) (by rw [nd_step c]; exact g2)
    by_cases c2 : lo ≤ (pz_nd B N q 0).2 ∧ (pz_nd B N q 0).2 < hx
    · rw [if_pos c2] at h
      have e := Sum.inr.inj h
      have e1 := congrArg Prod.fst e
      have e2 := congrArg Prod.snd e
      dsimp only at e1 e2
      rw [← e1, ← e2]
      refine ⟨?_, le, ne, c2.1, c2.2, c, rfl, rfl⟩
      rw [nd_step c] at ge ⊢
      omega
    · rw [if_neg c2] at h
      cases h
  · rw [if_neg c] at h
    cases h
theorem n_no {q lo hx : Nat} {e : Nat × Nat} (h : pz_n B N q lo hx = Sum.inl e) : e.2 = q ∧ ((e.1 = 3 ∧ (48 ≤ pz_at B N q ∧ pz_at B N q ≤ 57) ∧ ¬ (lo ≤ (pz_nd B N q 0).2 ∧ (pz_nd B N q 0).2 < hx)) ∨ (e.1 = 2 ∧ ¬ (48 ≤ pz_at B N q ∧ pz_at B N q ≤ 57))) := by
  unfold pz_n at h
  by_cases c : 48 ≤ pz_at B N q ∧ pz_at B N q ≤ 57
  · rw [if_pos c] at h
    by_cases c2 : lo ≤ (pz_nd B N q 0).2 ∧ (pz_nd B N q 0).2 < hx
    · rw [if_pos c2] at h
      cases h
    · rw [if_neg c2] at h
      cases h
      exact ⟨rfl, Or.inl ⟨rfl, c, c2⟩⟩
  · rw [if_neg c] at h
    cases h
    exact ⟨rfl, Or.inr ⟨rfl, c⟩⟩
theorem sg {q a : Nat} (ha : a ≠ 256) (h : pz_at B N q = a) : q < N := by
  by_cases z : q < N
  · exact z
  · rw [at_ge (by omega)] at h; omega
theorem x_ok {a q : Nat} {l : List ms_Op} {q' : Nat} {l' : List ms_Op} (ha : a ≠ 256) (h : pz_x B N a q l = Sum.inr (q', l')) : pz_at B N q = a ∧ q < q' ∧ q' ≤ N ∧ pz_at B N q' ≠ 32 ∧ l' = l ∧ q' = pz_s B N (q + 1) := by
  unfold pz_x at h
  by_cases c : pz_at B N q = a
  · rw [if_pos c] at h
    have hq := sg ha c
    have e := Sum.inr.inj h
    have e1 := congrArg Prod.fst e
    have e2 := congrArg Prod.snd e
    dsimp only at e1 e2
    rw [← e1, ← e2]
    have ge := s_ge (B := B) (p := q + 1) (N := N) (by omega)
    exact ⟨c, by omega, s_le (by omega), s_ne (by omega), rfl, rfl⟩
  · rw [if_neg c] at h
    cases h
theorem bd_inr {r : ms_V} {k : Nat → List ms_Op → ms_V} {q' : Nat} {l' : List ms_Op} (h : pz_bd r k = Sum.inr (q', l')) : ∃ q1 l1, r = Sum.inr (q1, l1) ∧ k q1 l1 = Sum.inr (q', l') := by
  cases r with
  | inl e => unfold pz_bd at h; cases h
  | inr x => exact ⟨x.1, x.2, rfl, h⟩
theorem pj_op {l : List ms_Op} {h k v : Nat} (hw : wr l 0 h) (h16 : h < 16) (hk : k ≤ 1) (hv : v < 10000) : wr (l ++ [(k, v)]) 0 (h + 1) ∧ na (l ++ [(k, v)]) = na l + 1 := by
  refine ⟨wr_app _ _ _ _ _ hw ?_, ?_⟩
  · unfold wr
    rw [if_pos hk]
    exact ⟨h16, hv, rfl⟩
  · rw [na_app]
    unfold na
    rw [if_pos hk]
    rfl
theorem pj_bi {l : List ms_Op} {h k : Nat} (hw : wr l 0 (h + 2)) (hk : 2 ≤ k ∧ k ≤ 5) : wr (l ++ [(k, 0)]) 0 (h + 1) ∧ na (l ++ [(k, 0)]) = na l := by
  refine ⟨wr_app _ _ _ _ _ hw ?_, ?_⟩
  · unfold wr
    rw [if_neg (by dsimp only; omega)]
    exact ⟨by omega, hk.2, rfl⟩
  · rw [na_app]
    unfold na
    rw [if_neg (by dsimp only; omega)]
    rfl
theorem wd_pos {w : List Nat} {q : Nat} (hq : q ≤ N) (hc : ∀ c ∈ w, 97 ≤ c ∧ c ≤ 122) (h : pz_wd B N w q = true) : q + w.length ≤ N := wd_le w q hq (fun c hx => by have := hc c hx; omega) h
theorem fa_ok {R : Nat → List ms_Op → ms_V} {d q h : Nat} {l : List ms_Op} (hR : d < 4 → ∀ q l h, q ≤ N → h ≤ 2 * d + 2 → pj l q h → pi_ok B N (R q l) q h) (hd : d ≤ 4) (hq : q ≤ N) (hh : h ≤ 2 * d + 2) (hj : pj l q h) : pi_ok B N (pz_fa B N R d q l) q h := by
  intro q' l' he
  unfold pz_fa at he
  have word : ∀ (w : List Nat) (v : Nat), (∀ c ∈ w, 97 ≤ c ∧ c ≤ 122) → 0 < w.length → v < 10000 → pz_wd B N w q = true → (Sum.inr (pz_s B N (q + w.length), l ++ [(1, v)]) : ms_V) = Sum.inr (q', l') → q < q' ∧ q' ≤ N ∧ pz_at B N q' ≠ 32 ∧ wr l' 0 (h + 1) ∧ 2 * na l' ≤ q' + 1 := by
    intro w v hc hl hv hw e
    have e0 := Sum.inr.inj e
    have e1 := congrArg Prod.fst e0
    have e2 := congrArg Prod.snd e0
    dsimp only at e1 e2
    have hle := wd_pos hq hc hw
    have ge := s_ge (B := B) (p := q + w.length) (N := N) hle
    obtain ⟨j1, j2⟩ := pj_op hj.1 (show h < 16 by omega) (show 1 ≤ 1 by omega) hv
    rw [← e1, ← e2]
    have := hj.2
    exact ⟨by omega, s_le hle, s_ne hle, j1, by rw [j2]; omega⟩
  by_cases c1 : pz_at B N q = 40
  · rw [if_pos c1] at he
    have hqN := sg (by omega) c1
    by_cases c2 : d = 4
    · rw [if_pos c2] at he
      cases he
    · rw [if_neg c2] at he
      obtain ⟨q1, l1, r1, r2⟩ := bd_inr he
      have ge := s_ge (B := B) (p := q + 1) (N := N) (by omega)
      have hj2 : pj l (pz_s B N (q + 1)) h := ⟨hj.1, by have := hj.2; omega⟩
      obtain ⟨a1, a2, a3, a4, a5⟩ := hR (by omega) _ l h (s_le (by omega)) (by omega) hj2 q1 l1 r1
      obtain ⟨b1, b2, b3, b4, b5, b6⟩ := x_ok (by omega) r2
      rw [b5]
      exact ⟨by omega, b3, b4, a4, by omega⟩
  · rw [if_neg c1] at he
    by_cases c2 : pz_wd B N w_persons q = true
    · rw [if_pos c2] at he
      exact word w_persons 0 (wk_mem k9) (by decide) (by omega) c2 he
    · rw [if_neg c2] at he
      by_cases c3 : pz_wd B N w_dog q = true
      · rw [if_pos c3] at he
        exact word w_dog 1 (wk_mem k4) (by decide) (by omega) c3 he
      · rw [if_neg c3] at he
        by_cases c4 : pz_wd B N w_call q = true
        · rw [if_pos c4] at he
          exact word w_call 2 (wk_mem k10) (by decide) (by omega) c4 he
        · rw [if_neg c4] at he
          cases hn : pz_n B N q 0 10000 with
          | inl e => rw [hn] at he; cases he
          | inr x =>
            rw [hn] at he
            have e0 := Sum.inr.inj he
            have e1 := congrArg Prod.fst e0
            have e2 := congrArg Prod.snd e0
            dsimp only at e1 e2
            obtain ⟨a1, a2, a3, a4, a5, _⟩ := n_ok (v := x.1) (q' := x.2) hq hn
            obtain ⟨j1, j2⟩ := pj_op hj.1 (show h < 16 by omega) (show 0 ≤ 1 by omega) a5
            rw [← e1, ← e2]
            have := hj.2
            exact ⟨a1, a2, a3, j1, by rw [j2]; omega⟩
theorem tl_ok {F : Nat → List ms_Op → ms_V} {a b k1 k2 h : Nat} (ha : a ≠ 256) (hb : b ≠ 256) (hk1 : 2 ≤ k1 ∧ k1 ≤ 5) (hk2 : 2 ≤ k2 ∧ k2 ≤ 5) (hF : ∀ q l, q ≤ N → pj l q (h + 1) → pi_ok B N (F q l) q (h + 1)) : ∀ n q l, q ≤ N → pz_at B N q ≠ 32 → wr l 0 (h + 1) → 2 * na l ≤ q + 1 → ∀ q' l', pz_tl B N F a b k1 k2 n q l = Sum.inr (q', l') → q ≤ q' ∧ q' ≤ N ∧ pz_at B N q' ≠ 32 ∧ wr l' 0 (h + 1) ∧ 2 * na l' ≤ q' + 1 := by
  intro n
  induction n with
  | zero =>
    intro q l hq hc hw hn q' l' he
    have e0 := Sum.inr.inj (show (Sum.inr (q, l) : ms_V) = Sum.inr (q', l') from he)
    have e1 := congrArg Prod.fst e0
    have e2 := congrArg Prod.snd e0
    dsimp only at e1 e2
    rw [← e1, ← e2]
    exact ⟨Nat.le_refl _, hq, hc, hw, hn⟩
  | succ n ih =>
    intro q l hq hc hw hn q' l' he
    rw [tl_s] at he
    by_cases c : pz_at B N q = a ∨ pz_at B N q = b
    · rw [if_pos c] at he
      have hqN : q < N := by
        rcases c with c | c
        · exact sg ha c
        · exact sg hb c
      obtain ⟨q1, l1, r1, r2⟩ := bd_inr he
      have ge := s_ge (B := B) (p := q + 1) (N := N) (by omega)
      obtain ⟨a1, a2, a3, a4, a5⟩ := hF _ l (s_le (by omega)) ⟨hw, by omega⟩ q1 l1 r1
      have hk : 2 ≤ (if pz_at B N q = a then k1 else k2) ∧ (if pz_at B N q = a then k1 else k2) ≤ 5 := by split <;> assumption
      obtain ⟨j1, j2⟩ := pj_bi a4 hk
      have := ih q1 _ a2 a3 j1 (by rw [j2]; exact a5) q' l' r2
      exact ⟨by omega, this.2⟩
    · rw [if_neg c] at he
      have e0 := Sum.inr.inj he
      have e1 := congrArg Prod.fst e0
      have e2 := congrArg Prod.snd e0
      dsimp only at e1 e2
      rw [← e1, ← e2]
      exact ⟨Nat.le_refl _, hq, hc, hw, hn⟩
theorem te_ok {R : Nat → List ms_Op → ms_V} {d q h : Nat} {l : List ms_Op} (hR : d < 4 → ∀ q l h, q ≤ N → h ≤ 2 * d + 2 → pj l q h → pi_ok B N (R q l) q h) (hd : d ≤ 4) (hq : q ≤ N) (hh : h ≤ 2 * d + 1) (hj : pj l q h) : pi_ok B N (pz_te B N R d q l) q h := by
  intro q' l' he
  unfold pz_te at he
  obtain ⟨q1, l1, r1, r2⟩ := bd_inr he
  obtain ⟨a1, a2, a3, a4, a5⟩ := fa_ok hR hd hq (by omega) hj q1 l1 r1
  have := tl_ok (F := pz_fa B N R d) (a := 42) (b := 47) (k1 := 4) (k2 := 5) (by omega) (by omega) (by omega) (by omega) (fun q l hq2 hj2 => fa_ok hR hd hq2 (by omega) hj2) (N + 1) q1 l1 a2 a3 a4 a5 q' l' r2
  exact ⟨by omega, this.2⟩
theorem su_ok {R : Nat → List ms_Op → ms_V} {d q h : Nat} {l : List ms_Op} (hR : d < 4 → ∀ q l h, q ≤ N → h ≤ 2 * d + 2 → pj l q h → pi_ok B N (R q l) q h) (hd : d ≤ 4) (hq : q ≤ N) (hh : h ≤ 2 * d) (hj : pj l q h) : pi_ok B N (pz_su B N R d q l) q h := by
  intro q' l' he
  unfold pz_su at he
  obtain ⟨q1, l1, r1, r2⟩ := bd_inr he
  obtain ⟨a1, a2, a3, a4, a5⟩ := te_ok hR hd hq (by omega) hj q1 l1 r1
  have := tl_ok (F := pz_te B N R d) (a := 43) (b := 45) (k1 := 2) (k2 := 3) (by omega) (by omega) (by omega) (by omega) (fun q l hq2 hj2 => te_ok hR hd hq2 (by omega) hj2) (N + 1) q1 l1 a2 a3 a4 a5 q' l' r2
  exact ⟨by omega, this.2⟩
theorem S_ok : ∀ k d, k + d = 6 → d ≤ 4 → ∀ q l h, q ≤ N → h ≤ 2 * d → pj l q h → pi_ok B N (pz_S B N k d q l) q h := by
  intro k
  induction k with
  | zero => intro d h1 h2; omega
  | succ k ih =>
    intro d h1 h2 q l h hq hh hj
    exact su_ok (R := pz_S B N k (d + 1)) (fun hd4 q l h hq2 hh2 hj2 => ih (d + 1) (by omega) (by omega) q l h hq2 (by omega) hj2) h2 hq hh hj
end GI
