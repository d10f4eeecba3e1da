/-! ===== the text: bytes B, length N ===== -/
def pz_at (B : Nat → Nat) (N k : Nat) : Nat := if k < N then B k else 256
def pz_sf (B : Nat → Nat) (N : Nat) : Nat → Nat → Nat
  | 0, p => p
  | n + 1, p => if pz_at B N p = 32 then pz_sf B N n (p + 1) else p
/-- behind the spaces -/
def pz_s (B : Nat → Nat) (N p : Nat) : Nat := pz_sf B N (N - p) p
def pz_cv (v d : Nat) : Nat := if v < 100000 ∧ 10 * v + d < 100000 then 10 * v + d else 100000
def pz_nf (B : Nat → Nat) (N : Nat) : Nat → Nat → Nat → Nat × Nat
  | 0, p, v => (p, v)
  | n + 1, p, v => if 48 ≤ pz_at B N p ∧ pz_at B N p ≤ 57 then pz_nf B N n (p + 1) (pz_cv v (pz_at B N p - 48)) else (p, v)
/-- a number's end and value (100000: that or more) -/
def pz_nd (B : Nat → Nat) (N p v : Nat) : Nat × Nat := pz_nf B N (N - p) p v
def pz_lf (B : Nat → Nat) (N : Nat) : Nat → Nat → Nat
  | 0, p => p
  | n + 1, p => if 97 ≤ pz_at B N p ∧ pz_at B N p ≤ 122 then pz_lf B N n (p + 1) else p
def pz_ld (B : Nat → Nat) (N p : Nat) : Nat := pz_lf B N (N - p) p
def pz_wd (B : Nat → Nat) (N : Nat) : List Nat → Nat → Bool
  | [], q => !(decide (97 ≤ pz_at B N q) && decide (pz_at B N q ≤ 122))
  | c :: w, q => decide (pz_at B N q = c) && pz_wd B N w (q + 1)
section LX
variable {B : Nat → Nat} {N p q v : Nat}
theorem at_lt (h : p < N) : pz_at B N p = B p := if_pos h
theorem at_ge (h : N ≤ p) : pz_at B N p = 256 := if_neg (by omega)
theorem s_stop (h : pz_at B N p ≠ 32) : pz_s B N p = p := by
  unfold pz_s
  cases N - p with
  | zero => rfl
  | succ n => exact if_neg h
theorem s_step (h : pz_at B N p = 32) : pz_s B N p = pz_s B N (p + 1) := by
  have hp : p < N := by
    by_cases c : p < N
    · exact c
    · rw [at_ge (by omega)] at h; omega
  unfold pz_s
  rw [show N - p = (N - (p + 1)) + 1 by omega]
  exact if_pos h
theorem s_all : ∀ n p, N - p = n → p ≤ N → p ≤ pz_s B N p ∧ pz_s B N p ≤ N ∧ pz_at B N (pz_s B N p) ≠ 32 := by
  intro n
  induction n with
  | zero =>
    intro p h1 h2
    have e : pz_at B N p ≠ 32 := by rw [at_ge (by omega)]; omega
    rw [s_stop e]
    exact ⟨Nat.le_refl _, h2, e⟩
  | succ n ih =>
    intro p h1 h2
    by_cases c : pz_at B N p = 32
    · rw [s_step c]
      have := ih (p + 1) (by omega) (by omega)
      exact ⟨by omega, this.2.1, this.2.2⟩
    · rw [s_stop c]
      exact ⟨Nat.le_refl _, h2, c⟩
theorem s_ge (h : p ≤ N) : p ≤ pz_s B N p := (s_all (N - p) p rfl h).1
theorem s_le (h : p ≤ N) : pz_s B N p ≤ N := (s_all (N - p) p rfl h).2.1
theorem s_ne (h : p ≤ N) : pz_at B N (pz_s B N p) ≠ 32 := (s_all (N - p) p rfl h).2.2
theorem s_s (h : p ≤ N) : pz_s B N (pz_s B N p) = pz_s B N p := s_stop (s_ne h)
theorem nd_stop (h : ¬ (48 ≤ pz_at B N p ∧ pz_at B N p ≤ 57)) : pz_nd B N p v = (p, v) := by
  unfold pz_nd
  cases N - p with
  | zero => rfl
  | succ n => exact if_neg h
theorem nd_step (h : 48 ≤ pz_at B N p ∧ pz_at B N p ≤ 57) : pz_nd B N p v = pz_nd B N (p + 1) (pz_cv v (pz_at B N p - 48)) := by
  have hp : p < N := by
    by_cases c : p < N
    · exact c
    · rw [at_ge (by omega)] at h; omega
  unfold pz_nd
  rw [show N - p = (N - (p + 1)) + 1 by omega]
  exact if_pos h
theorem nd_all : ∀ n p v, N - p = n → p ≤ N → p ≤ (pz_nd B N p v).1 ∧ (pz_nd B N p v).1 ≤ N := by
  intro n
  induction n with
  | zero =>
    intro p v h1 h2
    rw [nd_stop (by rw [at_ge (by omega)]; omega)]
    exact ⟨Nat.le_refl _, h2⟩
  | succ n ih =>
    intro p v h1 h2
    by_cases c : 48 ≤ pz_at B N p ∧ pz_at B N p ≤ 57
    · rw [nd_step c]
      have := ih (p + 1) (pz_cv v (pz_at B N p - 48)) (by omega) (by omega)
      exact ⟨by omega, this.2⟩
    · rw [nd_stop c]
      exact ⟨Nat.le_refl _, h2⟩
theorem ld_stop (h : ¬ (97 ≤ pz_at B N p ∧ pz_at B N p ≤ 122)) : pz_ld B N p = p := by
  unfold pz_ld
  cases N - p with
  | zero => rfl
  | succ n => exact if_neg h
theorem ld_step (h : 97 ≤ pz_at B N p ∧ pz_at B N p ≤ 122) : pz_ld B N p = pz_ld B N (p + 1) := by
  have hp : p < N := by
    by_cases c : p < N
    · exact c
    · rw [at_ge (by omega)] at h; omega
  unfold pz_ld
  rw [show N - p = (N - (p + 1)) + 1 by omega]
  exact if_pos h
theorem ld_all : ∀ n p, N - p = n → p ≤ N → p ≤ pz_ld B N p ∧ pz_ld B N p ≤ N := by
  intro n
  induction n with
  | zero =>
    intro p h1 h2
    rw [ld_stop (by rw [at_ge (by omega)]; omega)]
    exact ⟨Nat.le_refl _, h2⟩
  | succ n ih =>
    intro p h1 h2
    by_cases c : 97 ≤ pz_at B N p ∧ pz_at B N p ≤ 122
    · rw [ld_step c]
      have := ih (p + 1) (by omega) (by omega)
      exact ⟨by omega, this.2⟩
    · rw [ld_stop c]
      exact ⟨Nat.le_refl _, h2⟩
theorem wd_le : ∀ (w : List Nat) (q : Nat), q ≤ N → (∀ c ∈ w, c < 128) → pz_wd B N w q = true → q + w.length ≤ N
  | [], q, h, _, _ => by simpa using h
  | c :: w, q, h, hc, hw => by
    unfold pz_wd at hw
    rw [Bool.and_eq_true, decide_eq_true_eq] at hw
    have h1 := hc c (List.mem_cons_self ..)
    have hq : q < N := by
      by_cases z : q < N
      · exact z
      · rw [at_ge (by omega)] at hw; omega
    have := wd_le w (q + 1) (by omega) (fun x hx => hc x (List.mem_cons_of_mem _ hx)) hw.2
    simp only [List.length_cons]
    omega
/-- the class's and the reference's way of taking a number -/
def rv (v x : Nat) : Prop := (v < 100000 → x = v) ∧ (100000 ≤ v → 100000 ≤ x ∧ x ≤ 1000000)
end LX
def sb (c : Nat) : Int32 := (nI c).toInt8.toInt32
theorem sb_lo : ∀ c, c < 128 → sb c = nI c := by decide +kernel
theorem sb_hi : ∀ c, c < 256 → 128 ≤ c → sb c < 0 := by decide +kernel
theorem sb_eq {c a : Nat} (hc : c < 256) (ha : a < 128) : sb c = nI a ↔ c = a := by
  by_cases h : c < 128
  · rw [sb_lo c h]
    constructor
    · intro e
      have : (nI c).toInt = (nI a).toInt := by rw [e]
      rw [nI_toInt (by omega), nI_toInt (by omega)] at this
      omega
    · intro e; rw [e]
  · have hn := sb_hi c hc (by omega)
    constructor
    · intro e; rw [e] at hn; exact absurd hn (nI_pos (by omega))
    · intro e; omega
/-- words: which of the strings -/
def wk (o : Nat) (w : List Nat) : Prop := ms_sl o = w.length ∧ ∀ i, i < w.length → ((Int32.toUInt32 ((ms_sb o i) &&& 255) % 65536).toInt32) = nI (w.getD i 0) ∧ 97 ≤ w.getD i 0 ∧ w.getD i 0 ≤ 122
def w_town : List Nat := [116, 111, 119, 110]
def w_street : List Nat := [115, 116, 114, 101, 101, 116]
def w_house : List Nat := [104, 111, 117, 115, 101]
def w_dog : List Nat := [100, 111, 103]
def w_walker : List Nat := [119, 97, 108, 107, 101, 114]
def w_cross : List Nat := [99, 114, 111, 115, 115]
def w_gap : List Nat := [103, 97, 112]
def w_visit : List Nat := [118, 105, 115, 105, 116]
def w_persons : List Nat := [112, 101, 114, 115, 111, 110, 115]
def w_call : List Nat := [99, 97, 108, 108]
theorem k1 : wk 1 w_town := by unfold wk; decide +kernel
theorem k2 : wk 2 w_street := by unfold wk; decide +kernel
theorem k3 : wk 3 w_house := by unfold wk; decide +kernel
theorem k4 : wk 4 w_dog := by unfold wk; decide +kernel
theorem k5 : wk 5 w_walker := by unfold wk; decide +kernel
theorem k6 : wk 6 w_cross := by unfold wk; decide +kernel
theorem k7 : wk 7 w_gap := by unfold wk; decide +kernel
theorem k8 : wk 8 w_visit := by unfold wk; decide +kernel
theorem k9 : wk 9 w_persons := by unfold wk; decide +kernel
theorem k10 : wk 10 w_call := by unfold wk; decide +kernel
theorem k23 : wk 23 w_town := by unfold wk; decide +kernel
theorem k24 : wk 24 w_street := by unfold wk; decide +kernel
theorem k25 : wk 25 w_house := by unfold wk; decide +kernel
theorem k26 : wk 26 w_dog := by unfold wk; decide +kernel
theorem k27 : wk 27 w_walker := by unfold wk; decide +kernel
theorem k28 : wk 28 w_cross := by unfold wk; decide +kernel
theorem k29 : wk 29 w_gap := by unfold wk; decide +kernel
theorem k30 : wk 30 w_visit := by unfold wk; decide +kernel
theorem k31 : wk 31 w_persons := by unfold wk; decide +kernel
theorem k32 : wk 32 w_call := by unfold wk; decide +kernel
section LS
variable {E : ms_En} {u : ms_St} {o i c : Nat} {w : List Nat} {post : Int32 → ms_St → Prop}
theorem q_len (hk : wk o w) (hl : w.length < 100) (hp : post (nI w.length) u) : wp_J0_length_8abf5 E u o post := by
  unfold wp_J0_length_8abf5 wp_J0_coder_7d493 wp_J0_coder_7d493_14
  refine ⟨fun q => absurd q (by decide), fun _ => ⟨rfl, ?_⟩⟩
  dsimp only
  rw [hk.1, pk_shrN (by omega) (0 &&& 31) 0 (by decide), Nat.pow_zero, Nat.div_one]
  exact hp
theorem q_chr (hk : wk o w) (hl : w.length < 100) (hi : i < w.length) (hp : post (nI (w.getD i 0)) u) : wp_J0_charAt_5068e E u o (nI i) post := by
  obtain ⟨h1, h2, h3⟩ := hk.2 i hi
  have hc := pk_charN (q := w.getD i 0) (by omega)
  unfold wp_J0_charAt_5068e wp_J0_isLatin1_aae02 wp_J0_isLatin1_aae02_18 wp_J1_charAt_3b067 wp_J0_checkIndex_df160 wp_J3_checkIndex_8e157_z wp_J3_checkIndex_8e157_y
  rw [hk.1, nI_clamp (by omega), h1]
  have fin : vp_in (nI i) w.length ∧ (narrow .char (.int (nI (w.getD i 0))) = .int (nI (w.getD i 0)) ∧ (narrow .char (.int (nI (w.getD i 0))) = .int (nI (w.getD i 0)) ∧ post (nI (w.getD i 0)) u)) := ⟨vp_in_nI hi (by omega), hc.1, hc.1, hp⟩
  refine ⟨fun q => absurd q (by decide), fun _ => ⟨fun _ => ⟨Or.inr rfl, fun q => absurd q (by decide), fun _ => ⟨⟨fun q => absurd q (nI_pos (by omega)), fun _ => ⟨fun _ => fin, fun q => absurd (nI_lt hi (by omega)) q⟩⟩, fun t => ⟨fun q => absurd q (nI_pos (by omega)), fun _ => ⟨fun _ => fin, fun q => absurd (nI_lt hi (by omega)) q⟩⟩⟩⟩, fun q => absurd rfl q⟩⟩
theorem q_dg (hc : c < 256) (hp : post (if 48 ≤ c ∧ c ≤ 57 then 1 else 0) u) : wp_X6_isDigit E u (sb c) post := by
  unfold wp_X6_isDigit wp_X6_isDigit_16 wp_X6_isDigit_17
  by_cases h : c < 128
  · rw [sb_lo c h]
    refine pk_lt c 48 (fun q => ?_) (fun q => pk_lt 57 c (fun q2 => ?_) (fun q2 => ?_))
    · rw [if_neg (by omega)] at hp; exact ⟨Or.inl rfl, hp⟩
    · rw [if_neg (by omega)] at hp; exact ⟨Or.inl rfl, hp⟩
    · rw [if_pos (by omega)] at hp; exact ⟨Or.inr rfl, hp⟩
  · have hn := sb_hi c hc (by omega)
    rw [if_neg (by omega)] at hp
    exact ⟨fun _ => ⟨Or.inl rfl, hp⟩, fun q => absurd (Int32.lt_trans hn (by decide)) q⟩
theorem q_lt (hc : c < 256) (hp : post (if 97 ≤ c ∧ c ≤ 122 then 1 else 0) u) : wp_X6_isLetter E u (sb c) post := by
  unfold wp_X6_isLetter wp_X6_isLetter_16 wp_X6_isLetter_17
  by_cases h : c < 128
  · rw [sb_lo c h]
    refine pk_lt c 97 (fun q => ?_) (fun q => pk_lt 122 c (fun q2 => ?_) (fun q2 => ?_))
    · rw [if_neg (by omega)] at hp; exact ⟨Or.inl rfl, hp⟩
    · rw [if_neg (by omega)] at hp; exact ⟨Or.inl rfl, hp⟩
    · rw [if_pos (by omega)] at hp; exact ⟨Or.inr rfl, hp⟩
  · have hn := sb_hi c hc (by omega)
    rw [if_neg (by omega)] at hp
    exact ⟨fun _ => ⟨Or.inl rfl, hp⟩, fun q => absurd (Int32.lt_trans hn (by decide)) q⟩
end LS
/-! ===== the class's tokens ===== -/
def bt_C (u : ms_St) (B : Nat → Nat) (N : Nat) : Prop := N ≤ 900 ∧ ∀ k, k < N → ms_I u 1 k = sb (B k) ∧ B k < 256
def tk (u : ms_St) (B : Nat → Nat) (N q : Nat) : Prop := ms_I u 44 1 = nI q ∧ ms_I u 44 3 = nI 1 ∧ ms_I u 44 4 = nI N ∧ (N ≤ q → ms_I u 44 0 = 0)
  ∧ ((48 ≤ pz_at B N q ∧ pz_at B N q ≤ 57) → ms_I u 44 0 = 1 ∧ ms_I u 44 5 = nI (pz_nd B N q 0).1 ∧ ∃ x, ms_I u 44 2 = nI x ∧ rv (pz_nd B N q 0).2 x)
  ∧ ((97 ≤ pz_at B N q ∧ pz_at B N q ≤ 122) → ms_I u 44 0 = 2 ∧ ms_I u 44 5 = nI (pz_ld B N q))
  ∧ (q < N → ¬ (48 ≤ pz_at B N q ∧ pz_at B N q ≤ 57) → ¬ (97 ≤ pz_at B N q ∧ pz_at B N q ≤ 122) → ms_I u 44 0 = 3 ∧ ms_I u 44 2 = sb (B q) ∧ ms_I u 44 5 = nI (q + 1))
theorem is1 : ms_is ms_E0 1 12 := ⟨by decide +kernel, by decide +kernel⟩
theorem n1 : ms_N ms_E0 1 = 900 := by decide +kernel
section LT
variable {B : Nat → Nat} {N p q : Nat} {u u0 : ms_St} {pv : ms_St → Prop} {post : Int32 → ms_St → Prop}
theorem bt_fr {c : Nat} (h : fr c u0 u) (hc : c ≠ 1) (hB : bt_C u0 B N) : bt_C u B N := ⟨hB.1, fun k hk => by rw [h.1 1 k (by omega)]; exact hB.2 k hk⟩
theorem c1 : Int32.toNatClampNeg (nI 1) = 1 := rfl
theorem c_adv90 (hB : bt_C u0 B N) (h1 : q < N) (hd : 48 ≤ pz_at B N q ∧ pz_at B N q ≤ 57) (hp : ∀ u', fr 44 u0 u' → tk u' B N q → pv u') : ∀ m p v x w, N - p = m → p ≤ N → fr 44 u0 w → ms_I w 44 0 = 1 → ms_I w 44 1 = nI q → ms_I w 44 2 = nI x → ms_I w 44 3 = nI 1 → ms_I w 44 4 = nI N → ms_I w 44 5 = nI p → rv v x → pz_nd B N p v = pz_nd B N q 0 → wp_X6_advance_90 ms_E0 44 pv (m + 1) w := by
  have hN := hB.1
  intro m
  induction m with
  | zero =>
    intro p v x w hm hpN hF f0 f1 f2 f3 f4 f5 hr he
    have hs : pz_nd B N p v = (p, v) := nd_stop (by rw [at_ge (by omega)]; omega)
    rw [hs] at he
    unfold wp_X6_advance_90 wp_X6_advance_256
    rw [f4, f5]
    refine ⟨fun _ => hp w hF ⟨f1, f3, f4, fun z => by omega, fun _ => ⟨f0, by rw [f5, ← he], x, f2, by rw [← he]; exact hr⟩, fun z => by omega, fun _ z => absurd hd z⟩, fun q => absurd (nI_le (by omega) (by omega)) q⟩
  | succ m ih =>
    intro p v x w hm hpN hF f0 f1 f2 f3 f4 f5 hr he
    have hpl : p < N := by omega
    have hb := hB.2 p hpl
    have eb : ms_I w 1 p = sb (B p) := by rw [hF.1 1 p (by omega)]; exact hb.1
    have vp : vp_in (nI p) (ms_N ms_E0 1) := by rw [n1]; exact vp_in_nI (by omega) (by omega)
    have nz : (nI 1 : Int32) ≠ 0 := by decide
    unfold wp_X6_advance_90 wp_X6_advance_256
    rw [f4, f5, f3, c1, nI_clamp (by omega), eb]
    refine ⟨fun q => absurd q (nI_ge hpl (by omega)), fun _ => ⟨⟨nz, is1⟩, vp, q_dg hb.2 ?_⟩⟩
    by_cases c : 48 ≤ B p ∧ B p ≤ 57
    · have cd : 48 ≤ pz_at B N p ∧ pz_at B N p ≤ 57 := by rw [at_lt hpl]; exact c
      rw [if_pos c]
      refine ⟨fun q => absurd q (by decide), fun _ => ?_⟩
      rw [f2, f3, f5, c1, nI_clamp (show p < 2 ^ 31 by omega), eb]
      have ebn : sb (B p) = nI (B p) := sb_lo _ (by omega)
      have st : ∀ y z, z = nI y → rv (pz_cv v (pz_at B N p - 48)) y → wp_X6_advance_153 ms_E0 44 pv (wp_X6_advance_90 ms_E0 44 pv (m + 1)) w z 44 := by
        intro y z hz hry
        subst hz
        unfold wp_X6_advance_153
        have e5 : ms_I (ms_sI w 44 2 (nI y)) 44 5 + 1 = nI (p + 1) := by rw [I_sI, if_neg (by omega), f5, nI_1]
        rw [e5]
        refine ih (p + 1) (pz_cv v (pz_at B N p - 48)) y _ (by omega) (by omega) (fr_w (fr_w hF)) ?_ ?_ ?_ ?_ ?_ ?_ hry ?_
        · rw [I_sI, if_neg (by omega), I_sI, if_neg (by omega)]; exact f0
        · rw [I_sI, if_neg (by omega), I_sI, if_neg (by omega)]; exact f1
        · rw [I_sI, if_neg (by omega), I_sI, if_pos ⟨rfl, rfl⟩]
        · rw [I_sI, if_neg (by omega), I_sI, if_neg (by omega)]; exact f3
        · rw [I_sI, if_neg (by omega), I_sI, if_neg (by omega)]; exact f4
        · rw [I_sI, if_pos ⟨rfl, rfl⟩]
        · rw [← nd_step cd]; exact he
      have hv : v < 100000 ∨ 100000 ≤ v := by omega
      have hx : x ≤ 1000000 := by
        rcases hv with z | z
        · have := hr.1 z; omega
        · exact (hr.2 z).2
      refine pk_le 100000 x (fun q => st x _ rfl ?_) (fun q => ?_)
      · have hv2 : 100000 ≤ v := by
          rcases hv with z | z
          · have := hr.1 z; omega
          · exact z
        unfold pz_cv
        rw [if_neg (by omega)]
        exact ⟨fun z => by omega, fun _ => ⟨q, hx⟩⟩
      · have hv2 : v < 100000 := by
          rcases hv with z | z
          · exact z
          · have := (hr.2 z).1; omega
        have hxv := hr.1 hv2
        refine ⟨⟨nz, is1⟩, vp, st (10 * v + (B p - 48)) _ ?_ ?_⟩
        · rw [ebn, hxv, show (10 : Int32) = nI 10 from rfl, show (48 : Int32) = nI 48 from rfl, pk_mul, nI_add, pk_sub (by omega), Nat.add_sub_assoc (by omega)]
        · rw [at_lt hpl]
          unfold pz_cv
          by_cases z : 10 * v + (B p - 48) < 100000
          · rw [if_pos ⟨hv2, z⟩]
            exact ⟨fun _ => rfl, fun z2 => by omega⟩
          · rw [if_neg (fun z2 => z z2.2)]
            exact ⟨fun z2 => by omega, fun _ => by omega⟩
    · have cd : ¬ (48 ≤ pz_at B N p ∧ pz_at B N p ≤ 57) := by rw [at_lt hpl]; exact c
      rw [if_neg c]
      rw [nd_stop cd] at he
      exact ⟨fun _ => hp w hF ⟨f1, f3, f4, fun z => by omega, fun _ => ⟨f0, by rw [f5, ← he], x, f2, by rw [← he]; exact hr⟩, fun z => by omega, fun _ z => absurd hd z⟩, fun q => absurd rfl q⟩
theorem c_adv189 (hB : bt_C u0 B N) (h1 : q < N) (hd : 97 ≤ pz_at B N q ∧ pz_at B N q ≤ 122) (hp : ∀ u', fr 44 u0 u' → tk u' B N q → pv u') : ∀ m p w, N - p = m → p ≤ N → fr 44 u0 w → ms_I w 44 0 = 2 → ms_I w 44 1 = nI q → ms_I w 44 3 = nI 1 → ms_I w 44 4 = nI N → ms_I w 44 5 = nI p → pz_ld B N p = pz_ld B N q → wp_X6_advance_189 ms_E0 44 pv (m + 1) w := by
  have hN := hB.1
  intro m
  induction m with
  | zero =>
    intro p w hm hpN hF f0 f1 f3 f4 f5 he
    rw [ld_stop (by rw [at_ge (by omega)]; omega)] at he
    unfold wp_X6_advance_189 wp_X6_advance_256
    rw [f4, f5]
    exact ⟨fun _ => hp w hF ⟨f1, f3, f4, fun z => by omega, fun z => by omega, fun _ => ⟨f0, by rw [f5, ← he]⟩, fun _ _ z => absurd hd z⟩, fun q => absurd (nI_le (by omega) (by omega)) q⟩
  | succ m ih =>
    intro p w hm hpN hF f0 f1 f3 f4 f5 he
    have hpl : p < N := by omega
    have hb := hB.2 p hpl
    have eb : ms_I w 1 p = sb (B p) := by rw [hF.1 1 p (by omega)]; exact hb.1
    have vp : vp_in (nI p) (ms_N ms_E0 1) := by rw [n1]; exact vp_in_nI (by omega) (by omega)
    have nz : (nI 1 : Int32) ≠ 0 := by decide
    unfold wp_X6_advance_189 wp_X6_advance_256
    rw [f4, f5, f3, c1, nI_clamp (by omega), eb]
    refine ⟨fun q => absurd q (nI_ge hpl (by omega)), fun _ => ⟨⟨nz, is1⟩, vp, q_lt hb.2 ?_⟩⟩
    by_cases c : 97 ≤ B p ∧ B p ≤ 122
    · have cd : 97 ≤ pz_at B N p ∧ pz_at B N p ≤ 122 := by rw [at_lt hpl]; exact c
      rw [if_pos c, f5, nI_1]
      refine ⟨fun q => absurd q (by decide), fun _ => ih (p + 1) _ (by omega) (by omega) (fr_w hF) ?_ ?_ ?_ ?_ ?_ ?_⟩
      · rw [I_sI, if_neg (by omega)]; exact f0
      · rw [I_sI, if_neg (by omega)]; exact f1
      · rw [I_sI, if_neg (by omega)]; exact f3
      · rw [I_sI, if_neg (by omega)]; exact f4
      · rw [I_sI, if_pos ⟨rfl, rfl⟩]
      · rw [← ld_step cd]; exact he
    · have cd : ¬ (97 ≤ pz_at B N p ∧ pz_at B N p ≤ 122) := by rw [at_lt hpl]; exact c
      rw [if_neg c]
      rw [ld_stop cd] at he
      exact ⟨fun _ => hp w hF ⟨f1, f3, f4, fun z => by omega, fun z => by omega, fun _ => ⟨f0, by rw [f5, ← he]⟩, fun _ _ z => absurd hd z⟩, fun q => absurd rfl q⟩
theorem c_adv38 (hB : bt_C u0 B N) (hpN : p ≤ N) (hF : fr 44 u0 u) (f3 : ms_I u 44 3 = nI 1) (f4 : ms_I u 44 4 = nI N) (f5 : ms_I u 44 5 = nI p) (hp : ∀ u', fr 44 u0 u' → tk u' B N p → pv u') : wp_X6_advance_38 ms_E0 44 pv u := by
  have hN := hB.1
  have g : ∀ a b, ¬ (a = 44 ∧ (b = 1 ∨ b = 2)) → ms_I (ms_sI (ms_sI u 44 1 (ms_I u 44 5)) 44 2 0) a b = ms_I u a b := fun a b z => by rw [I_sI, if_neg (by omega), I_sI, if_neg (by omega)]
  have g1 : ms_I (ms_sI (ms_sI u 44 1 (ms_I u 44 5)) 44 2 0) 44 1 = nI p := by rw [I_sI, if_neg (by omega), I_sI, if_pos ⟨rfl, rfl⟩, f5]
  have g2 : ms_I (ms_sI (ms_sI u 44 1 (ms_I u 44 5)) 44 2 0) 44 2 = 0 := by rw [I_sI, if_pos ⟨rfl, rfl⟩]
  have gF : fr 44 u0 (ms_sI (ms_sI u 44 1 (ms_I u 44 5)) 44 2 0) := fr_w (fr_w hF)
  unfold wp_X6_advance_38 wp_X6_advance_256
  generalize ms_sI (ms_sI u 44 1 (ms_I u 44 5)) 44 2 0 = v at *
  have v3 : ms_I v 44 3 = nI 1 := by rw [g 44 3 (by omega)]; exact f3
  have v4 : ms_I v 44 4 = nI N := by rw [g 44 4 (by omega)]; exact f4
  have v5 : ms_I v 44 5 = nI p := by rw [g 44 5 (by omega)]; exact f5
  have nz : (nI 1 : Int32) ≠ 0 := by decide
  rw [v3, v4, v5, c1, nI_clamp (show p < 2 ^ 31 by omega)]
  refine pk_lt p N (fun hpl => ?_) (fun hge => hp _ (fr_w gF) ⟨?_, ?_, ?_, fun _ => ?_, fun z => ?_, fun z => ?_, fun z => by omega⟩)
  · have hb := hB.2 p hpl
    have eb : ms_I v 1 p = sb (B p) := by rw [gF.1 1 p (by omega)]; exact hb.1
    have vp : vp_in (nI p) (ms_N ms_E0 1) := by rw [n1]; exact vp_in_nI (by omega) (by omega)
    rw [eb]
    refine ⟨⟨nz, is1⟩, vp, q_dg hb.2 ?_⟩
    by_cases c : 48 ≤ B p ∧ B p ≤ 57
    · have cd : 48 ≤ pz_at B N p ∧ pz_at B N p ≤ 57 := by rw [at_lt hpl]; exact c
      rw [if_pos c]
      refine ⟨fun q => absurd q (by decide), fun _ => ⟨N - p + 1, c_adv90 hB hpl cd hp (N - p) p 0 0 _ rfl hpN (fr_w gF) ?_ ?_ ?_ ?_ ?_ ?_ ⟨fun _ => rfl, fun z => by omega⟩ rfl⟩⟩
      · rw [I_sI, if_pos ⟨rfl, rfl⟩]
      · rw [I_sI, if_neg (by omega)]; exact g1
      · rw [I_sI, if_neg (by omega)]; exact g2
      · rw [I_sI, if_neg (by omega)]; exact v3
      · rw [I_sI, if_neg (by omega)]; exact v4
      · rw [I_sI, if_neg (by omega)]; exact v5
    · have cd : ¬ (48 ≤ pz_at B N p ∧ pz_at B N p ≤ 57) := by rw [at_lt hpl]; exact c
      rw [if_neg c, v3, v5, c1, nI_clamp (show p < 2 ^ 31 by omega), eb]
      refine ⟨fun _ => ⟨⟨nz, is1⟩, vp, q_lt hb.2 ?_⟩, fun q => absurd rfl q⟩
      by_cases c2 : 97 ≤ B p ∧ B p ≤ 122
      · have cd2 : 97 ≤ pz_at B N p ∧ pz_at B N p ≤ 122 := by rw [at_lt hpl]; exact c2
        rw [if_pos c2]
        refine ⟨fun q => absurd q (by decide), fun _ => ⟨N - p + 1, c_adv189 hB hpl cd2 hp (N - p) p _ rfl hpN (fr_w gF) ?_ ?_ ?_ ?_ ?_ rfl⟩⟩
        · rw [I_sI, if_pos ⟨rfl, rfl⟩]
        · rw [I_sI, if_neg (by omega)]; exact g1
        · rw [I_sI, if_neg (by omega)]; exact v3
        · rw [I_sI, if_neg (by omega)]; exact v4
        · rw [I_sI, if_neg (by omega)]; exact v5
      · have cd2 : ¬ (97 ≤ pz_at B N p ∧ pz_at B N p ≤ 122) := by rw [at_lt hpl]; exact c2
        have x3 : ms_I (ms_sI v 44 0 3) 44 3 = nI 1 := by rw [I_sI, if_neg (by omega)]; exact v3
        have x5 : ms_I (ms_sI v 44 0 3) 44 5 = nI p := by rw [I_sI, if_neg (by omega)]; exact v5
        have xb : ms_I (ms_sI v 44 0 3) 1 p = sb (B p) := by rw [I_sI, if_neg (by omega)]; exact eb
        rw [if_neg c2, x3, x5, c1, nI_clamp (show p < 2 ^ 31 by omega), xb]
        refine ⟨fun _ => ⟨⟨nz, is1⟩, vp, fun w243 e243 => ?_⟩, fun q => absurd rfl q⟩
        have y5 : ms_I w243 44 5 + 1 = nI (p + 1) := by rw [e243, I_sI, if_neg (by omega), x5, nI_1]
        rw [y5, e243]
        refine hp _ (fr_w (fr_w (fr_w gF))) ⟨?_, ?_, ?_, fun z => by omega, fun z => absurd z cd, fun z => absurd z cd2, fun _ _ _ => ⟨?_, ?_, ?_⟩⟩
        · rw [I_sI, if_neg (by omega), I_sI, if_neg (by omega), I_sI, if_neg (by omega)]; exact g1
        · rw [I_sI, if_neg (by omega), I_sI, if_neg (by omega)]; exact x3
        · rw [I_sI, if_neg (by omega), I_sI, if_neg (by omega), I_sI, if_neg (by omega)]; exact v4
        · rw [I_sI, if_neg (by omega), I_sI, if_neg (by omega), I_sI, if_pos ⟨rfl, rfl⟩]
        · rw [I_sI, if_neg (by omega), I_sI, if_pos ⟨rfl, rfl⟩]
        · rw [I_sI, if_pos ⟨rfl, rfl⟩]
  · rw [I_sI, if_neg (by omega)]; exact g1
  · rw [I_sI, if_neg (by omega)]; exact v3
  · rw [I_sI, if_neg (by omega)]; exact v4
  · rw [I_sI, if_pos ⟨rfl, rfl⟩]
  · rw [at_ge hge] at z; omega
  · rw [at_ge hge] at z; omega
theorem c_advance (hB : bt_C u B N) (hpN : p ≤ N) (f3 : ms_I u 44 3 = nI 1) (f4 : ms_I u 44 4 = nI N) (f5 : ms_I u 44 5 = nI p) (hp : ∀ u', fr 44 u u' → tk u' B N (pz_s B N p) → pv u') : wp_X6_advance ms_E0 u 44 pv := by
  have hN := hB.1
  have st : ∀ m p w, N - p = m → p ≤ N → fr 44 u w → ms_I w 44 3 = nI 1 → ms_I w 44 4 = nI N → ms_I w 44 5 = nI p → (∀ u', fr 44 u u' → tk u' B N (pz_s B N p) → pv u') → wp_X6_advance_0 ms_E0 44 pv (m + 1) w := by
    intro m
    induction m with
    | zero =>
      intro p w hm hpN hF f3 f4 f5 hp
      rw [s_stop (by rw [at_ge (by omega)]; omega)] at hp
      unfold wp_X6_advance_0
      rw [f4, f5]
      exact ⟨fun _ => c_adv38 hB hpN hF f3 f4 f5 hp, fun q => absurd (nI_le (by omega) (by omega)) q⟩
    | succ m ih =>
      intro p w hm hpN hF f3 f4 f5 hp
      have hpl : p < N := by omega
      have hb := hB.2 p hpl
      have eb : ms_I w 1 p = sb (B p) := by rw [hF.1 1 p (by omega)]; exact hb.1
      have vp : vp_in (nI p) (ms_N ms_E0 1) := by rw [n1]; exact vp_in_nI (by omega) (by omega)
      have nz : (nI 1 : Int32) ≠ 0 := by decide
      unfold wp_X6_advance_0
      rw [f4, f5, f3, c1, nI_clamp (by omega), eb, nI_1]
      refine ⟨fun q => absurd q (nI_ge hpl (by omega)), fun _ => ⟨⟨nz, is1⟩, vp, fun q => ?_, fun q => ?_⟩⟩
      · have c : B p = 32 := (sb_eq (a := 32) hb.2 (by omega)).mp q
        rw [s_step (by rw [at_lt hpl]; exact c)] at hp
        refine ih (p + 1) _ (by omega) (by omega) (fr_w hF) ?_ ?_ ?_ hp
        · rw [I_sI, if_neg (by omega)]; exact f3
        · rw [I_sI, if_neg (by omega)]; exact f4
        · rw [I_sI, if_pos ⟨rfl, rfl⟩]
      · have c : B p ≠ 32 := fun z => q ((sb_eq (a := 32) hb.2 (by omega)).mpr z)
        rw [s_stop (by rw [at_lt hpl]; exact c)] at hp
        exact c_adv38 hB hpN hF f3 f4 f5 hp
  unfold wp_X6_advance
  exact ⟨N - p + 1, st (N - p) p u rfl hpN ⟨fun _ _ _ => rfl, rfl⟩ f3 f4 f5 hp⟩
theorem c_isSign {a : Nat} (hB : bt_C u B N) (ht : tk u B N q) (ha : 33 ≤ a ∧ a < 48 ∨ a = 59) (hp : post (if pz_at B N q = a then 1 else 0) u) : wp_X6_isSign ms_E0 u 44 (nI a) post := by
  obtain ⟨t1, t3, t4, te, td, tl, ts⟩ := ht
  unfold wp_X6_isSign wp_X6_isSign_20 wp_X6_isSign_21
  by_cases h1 : N ≤ q
  · rw [te h1]
    rw [at_ge h1, if_neg (by omega)] at hp
    exact ⟨fun z => absurd z (by decide), fun _ => ⟨Or.inl rfl, hp⟩⟩
  · by_cases h2 : 48 ≤ pz_at B N q ∧ pz_at B N q ≤ 57
    · rw [(td h2).1]
      rw [if_neg (by omega)] at hp
      exact ⟨fun z => absurd z (by decide), fun _ => ⟨Or.inl rfl, hp⟩⟩
    · by_cases h3 : 97 ≤ pz_at B N q ∧ pz_at B N q ≤ 122
      · rw [(tl h3).1]
        rw [if_neg (by omega)] at hp
        exact ⟨fun z => absurd z (by decide), fun _ => ⟨Or.inl rfl, hp⟩⟩
      · obtain ⟨s0, s2, s5⟩ := ts (by omega) h2 h3
        have hb := (hB.2 q (by omega)).2
        rw [s0, s2]
        rw [at_lt (by omega)] at hp
        refine ⟨fun _ => ⟨fun z => ?_, fun z => ?_⟩, fun z => absurd rfl z⟩
        · rw [if_pos ((sb_eq hb (by omega)).mp z)] at hp; exact ⟨Or.inr rfl, hp⟩
        · rw [if_neg (fun z2 => z ((sb_eq hb (by omega)).mpr z2))] at hp; exact ⟨Or.inl rfl, hp⟩
theorem wd_run : ∀ (w : List Nat) (q : Nat), (∀ c ∈ w, 97 ≤ c ∧ c ≤ 122) → pz_wd B N w q = true → pz_ld B N q = q + w.length
  | [], q, _, h => by
    unfold pz_wd at h
    rw [ld_stop]
    · rfl
    · intro z
      simp [z.1, z.2] at h
  | c :: w, q, hc, h => by
    unfold pz_wd at h
    rw [Bool.and_eq_true, decide_eq_true_eq] at h
    have := hc c (List.mem_cons_self ..)
    rw [ld_step (by rw [h.1]; exact this), wd_run w (q + 1) (fun x hx => hc x (List.mem_cons_of_mem _ hx)) h.2]
    simp only [List.length_cons]
    omega
theorem wd_of : ∀ (w : List Nat) (q : Nat), pz_ld B N q = q + w.length → q ≤ N → (∀ i, i < w.length → pz_at B N (q + i) = w.getD i 0) → pz_wd B N w q = true
  | [], q, h, hq, _ => by
    unfold pz_wd
    by_cases c : 97 ≤ pz_at B N q ∧ pz_at B N q ≤ 122
    · have hqN : q < N := by
        by_cases z : q < N
        · exact z
        · rw [at_ge (by omega)] at c; omega
      have := (ld_all (B := B) (N := N) (N - (q + 1)) (q + 1) rfl (by omega)).1
      rw [ld_step c] at h
      simp at h
      omega
    · simp
      omega
  | c :: w, q, h, hq, hi => by
    unfold pz_wd
    have h0 := hi 0 (by simp)
    simp at h0
    have hcl : 97 ≤ pz_at B N q ∧ pz_at B N q ≤ 122 := by
      apply Classical.byContradiction
      intro z
      rw [ld_stop z] at h
      simp at h
    have hqN : q < N := by
      by_cases z : q < N
      · exact z
      · rw [at_ge (by omega)] at hcl; omega
    rw [Bool.and_eq_true, decide_eq_true_eq]
    refine ⟨h0, wd_of w (q + 1) ?_ (by omega) (fun i h1 => ?_)⟩
    · rw [← ld_step hcl, h]
      simp only [List.length_cons]
      omega
    · have := hi (i + 1) (by simp; omega)
      rw [show q + 1 + i = q + (i + 1) by omega, this]
      simp
theorem wd_at : ∀ (w : List Nat) (q : Nat), pz_wd B N w q = true → ∀ i, i < w.length → pz_at B N (q + i) = w.getD i 0
  | [], _, _, i, hi => by simp at hi
  | c :: w, q, h, i, hi => by
    unfold pz_wd at h
    rw [Bool.and_eq_true, decide_eq_true_eq] at h
    cases i with
    | zero => simpa using h.1
    | succ i =>
      have := wd_at w (q + 1) h.2 i (by simp at hi; omega)
      rw [show q + (i + 1) = q + 1 + i by omega, this]
      simp
theorem wk_mem {o : Nat} {w : List Nat} (hk : wk o w) : ∀ c ∈ w, 97 ≤ c ∧ c ≤ 122 := by
  intro c hc
  obtain ⟨i, hi, e⟩ := List.getElem_of_mem hc
  have := (hk.2 i hi).2
  rw [List.getD_eq_getElem?_getD, List.getElem?_eq_getElem hi] at this
  simp at this
  rw [e] at this
  exact this
theorem c_isWord {o : Nat} {w : List Nat} (hk : wk o w) (hl : 0 < w.length ∧ w.length < 100) (hB : bt_C u B N) (hqN : q ≤ N) (ht : tk u B N q) (hp : post (if pz_wd B N w q = true then 1 else 0) u) : wp_X6_isWord ms_E0 u 44 o post := by
  obtain ⟨t1, t3, t4, te, td, tl, ts⟩ := ht
  have hN := hB.1
  have nl : ¬ (97 ≤ pz_at B N q ∧ pz_at B N q ≤ 122) → ¬ pz_wd B N w q = true := by
    intro z h
    have := wd_run w q (wk_mem hk) h
    rw [ld_stop z] at this
    omega
  unfold wp_X6_isWord wp_X6_isWord_24
  by_cases h3 : 97 ≤ pz_at B N q ∧ pz_at B N q ≤ 122
  · obtain ⟨l0, l5⟩ := tl h3
    have hqN2 : q < N := by
      by_cases z : q < N
      · exact z
      · rw [at_ge (by omega)] at h3; omega
    obtain ⟨ll1, ll2⟩ := ld_all (B := B) (N := N) (N - q) q rfl (by omega)
    rw [l0]
    refine ⟨fun _ => q_len hk hl.2 ?_, fun z => absurd rfl z⟩
    rw [l5, t1, pk_sub (by omega)]
    refine pk_eq (pz_ld B N q - q) w.length (fun e => ⟨w.length + 1, ?_⟩) (fun e => ?_)
    · have st : ∀ m i, i + m = w.length → (∀ j, j < i → pz_at B N (q + j) = w.getD j 0) → wp_X6_isWord_28 ms_E0 44 o post (m + 1) u (nI i) := by
        intro m
        induction m with
        | zero =>
          intro i hi hh
          have ei : i = w.length := by omega
          unfold wp_X6_isWord_28
          refine q_len hk hl.2 ⟨fun _ => ?_, fun z => absurd (nI_le (by omega) (by omega)) z⟩
          rw [if_pos (wd_of w q (by omega) hqN (fun j hj => hh j (by omega)))] at hp
          exact hp
        | succ m ih =>
          intro i hi hh
          have hb := hB.2 (q + i) (by omega)
          have hc := (hk.2 i (by omega)).2
          unfold wp_X6_isWord_28
          refine q_len hk hl.2 ⟨fun z => absurd z (nI_ge (by omega) (by omega)), fun _ => ?_⟩
          rw [t3, t1, c1, nI_add, nI_clamp (show q + i < 2 ^ 31 by omega), hb.1, n1]
          refine ⟨⟨by decide, is1⟩, vp_in_nI (by omega) (by omega), q_chr hk hl.2 (by omega) ⟨fun z => ?_, fun z => ?_⟩⟩
          · rw [nI_1]
            refine ih (i + 1) (by omega) (fun j hj => ?_)
            by_cases c : j = i
            · rw [c, at_lt (by omega)]; exact (sb_eq hb.2 (by omega)).mp z
            · exact hh j (by omega)
          · rw [if_neg] at hp
            · exact hp
            · intro hw
              have := wd_at w q hw i (by omega)
              rw [at_lt (by omega)] at this
              exact z ((sb_eq hb.2 (by omega)).mpr this)
      exact st w.length 0 (by omega) (fun j hj => by omega)
    · rw [if_neg] at hp
      · exact hp
      · intro hw
        have := wd_run w q (wk_mem hk) hw
        omega
  · rw [if_neg (nl h3)] at hp
    have hne : ¬ ms_I u 44 0 = 2 := by
      by_cases h1 : N ≤ q
      · rw [te h1]; decide
      · by_cases h2 : 48 ≤ pz_at B N q ∧ pz_at B N q ≤ 57
        · rw [(td h2).1]; decide
        · rw [(ts (by omega) h2 h3).1]; decide
    exact ⟨fun z => absurd z hne, fun _ => hp⟩
end LT
