/-! ===== divisions: what is answered; the class ===== -/
def sq_sh (n : Nat) : Nat → Nat → Nat → Nat
  | 0 => fun _ _ => 0
  | m + 1 => fun pv w => sq_sh n m (pv / n) w ||| (if pv % n = w then 2 ^ m else 0)
def sq_tm (e : Nat → Nat → Nat) (S : Nat → Nat) : Nat → Nat
  | 0 => 0
  | w + 1 => if S w ≠ 0 ∧ sq_tm e S w < e w (S w) then e w (S w) else sq_tm e S w
def sq_bt (T : Nat → Nat) : Nat → Nat
  | 0 => 1000000
  | d + 1 => if T d < sq_bt T d then T d else sq_bt T d
def sq_bi (T : Nat → Nat) : Nat → Nat
  | 0 => 0
  | d + 1 => if T d < sq_bt T d then d + 1 else sq_bi T d
def sq_T (e : Nat → Nat → Nat) (n M d : Nat) : Nat := sq_tm e (sq_sh n M d) n
def sq_en (D : Nat → Nat) (l : List ms_Op) (s : Nat) : Nat → Nat → Nat := fun w S => sq_se (sq_A D l s w) S
theorem sh_s {n m pv w : Nat} : sq_sh n (m + 1) pv w = sq_sh n m (pv / n) w ||| (if pv % n = w then 2 ^ m else 0) := rfl
theorem tm_s {e : Nat → Nat → Nat} {S : Nat → Nat} {w : Nat} : sq_tm e S (w + 1) = if S w ≠ 0 ∧ sq_tm e S w < e w (S w) then e w (S w) else sq_tm e S w := rfl
theorem sh_lt {n : Nat} : ∀ m pv w, sq_sh n m pv w < 2 ^ m
  | 0, _, _ => by simp [sq_sh]
  | m + 1, pv, w => by
    have ih := sh_lt (n := n) m (pv / n) w
    have h1 : 2 ^ m < 2 ^ (m + 1) := Nat.pow_lt_pow_right (by decide) (by omega)
    rw [sh_s]
    refine Nat.or_lt_two_pow (by omega) ?_
    split <;> omega
theorem tm_mono {e : Nat → Nat → Nat} {S : Nat → Nat} : ∀ i j, i ≤ j → sq_tm e S i ≤ sq_tm e S j := by
  intro i j
  induction j with
  | zero => intro h; rw [show i = 0 by omega]; exact Nat.le_refl _
  | succ j ih =>
    intro h
    by_cases q : i = j + 1
    · rw [q]; exact Nat.le_refl _
    · have := ih (by omega)
      rw [tm_s]
      split <;> omega
theorem tm_le {e : Nat → Nat → Nat} {S : Nat → Nat} {b : Nat} : ∀ j, (∀ w, w < j → e w (S w) ≤ b) → sq_tm e S j ≤ b
  | 0, _ => by simp [sq_tm]
  | j + 1, h => by
    have ih := tm_le j (fun w hw => h w (by omega))
    have := h j (by omega)
    rw [tm_s]
    split <;> omega
theorem bt_le {T : Nat → Nat} : ∀ d, sq_bt T d ≤ 1000000
  | 0 => Nat.le_refl _
  | d + 1 => by
    have := bt_le (T := T) d
    show (if T d < sq_bt T d then T d else sq_bt T d) ≤ _
    split <;> omega
theorem bi_bt {T : Nat → Nat} : ∀ d, (sq_bi T d = 0 ↔ 1000000 ≤ sq_bt T d) ∧ sq_bi T d ≤ d
  | 0 => by simp [sq_bi, sq_bt]
  | d + 1 => by
    have ih := bi_bt (T := T) d
    have := bt_le (T := T) d
    have e1 : sq_bi T (d + 1) = if T d < sq_bt T d then d + 1 else sq_bi T d := rfl
    have e2 : sq_bt T (d + 1) = if T d < sq_bt T d then T d else sq_bt T d := rfl
    rw [e1, e2]
    by_cases q : T d < sq_bt T d
    · rw [if_pos q, if_pos q]; omega
    · rw [if_neg q, if_neg q]; omega
theorem dm_d {n pv w : Nat} (h : w < n) : (pv * n + w) / n = pv ∧ (pv * n + w) % n = w := by
  constructor
  · rw [Nat.add_comm, Nat.add_mul_div_right _ _ (by omega), Nat.div_eq_of_lt h, Nat.zero_add]
  · rw [Nat.add_comm, Nat.add_mul_mod_self_right, Nat.mod_eq_of_lt h]
theorem ox : ∀ m, m < 8 → ∀ x, x < 2 ^ m → (x ||| 2 ^ m) ^^^ 2 ^ m = x := by decide +kernel
/-- what giveFrom keeps -/
def gv_F (u0 u : ms_St) : Prop := (∀ a b, a ≠ 71 → a ≠ 72 → ¬ (a = 60 ∧ b = 2) → ms_I u a b = ms_I u0 a b) ∧ ms_J u = ms_J u0
def gv_E (u : ms_St) (e : Nat → Nat → Nat) (n M : Nat) : Prop := ms_I u 60 0 = nI M ∧ ms_I u 60 15 = nI n ∧ ∀ w S, w < n → S < 2 ^ M → ms_I u 70 (w * 256 + S) = sp_td (e w S)
def gv_B (u : ms_St) (T : Nat → Nat) (n M X : Nat) : Prop := ms_I u 60 2 = sp_td (sq_bt T X) ∧ (sq_bi T X ≠ 0 → ∀ w, w < n → ms_I u 72 w = nI (sq_sh n M (sq_bi T X - 1) w))
theorem gv_Ek {u0 u : ms_St} {e : Nat → Nat → Nat} {n M : Nat} (hF : gv_F u0 u) (h : gv_E u0 e n M) : gv_E u e n M :=
  ⟨by rw [hF.1 60 0 (by omega) (by omega) (by omega)]; exact h.1, by rw [hF.1 60 15 (by omega) (by omega) (by omega)]; exact h.2.1, fun w S hw hS => by rw [hF.1 70 _ (by omega) (by omega) (by omega)]; exact h.2.2 w S hw hS⟩
section DV
variable {e : Nat → Nat → Nat} {n M : Nat} {u u0 : ms_St} {pv : ms_St → Prop}
theorem c_judge {S : Nat → Nat} {B : Nat} (hn : n ≤ 3) (hM : M ≤ 8) (he : ∀ w S, w < n → S < 2 ^ M → e w S ≤ 1000000) (hE : gv_E u e n M) (hS : ∀ w, w < n → S w < 2 ^ M ∧ ms_I u 71 w = nI (S w)) (hB : ms_I u 60 2 = sp_td B) (hB2 : B ≤ 1000000) (h1 : sq_tm e S n < B → ∀ u', gv_F u u' → (∀ w, ms_I u' 71 w = ms_I u 71 w) → ms_I u' 60 2 = nI (sq_tm e S n) → (∀ w, w < n → ms_I u' 72 w = nI (S w)) → pv u') (h2 : B ≤ sq_tm e S n → pv u) : wp_X2_judgeShares ms_E0 u 60 pv := by
  have h8 := pw8 _ hM
  have st : ∀ m w, w + m = n → sq_tm e S w < 1000000 → wp_X2_judgeShares_4 ms_E0 60 pv (m + 1) u (nI (sq_tm e S w)) (nI w) := by
    intro m
    induction m with
    | zero =>
      intro w hw ht
      have ew : w = n := by omega
      subst ew
      unfold wp_X2_judgeShares_4 wp_X2_judgeShares_73 wp_X2_judgeShares_92
      rw [hE.2.1, hB, at_60_13, at_60_14]
      have up : sq_tm e S w < B → ∀ w89 : ms_St, w89 = (ms_sA (ms_sI u 60 2 (nI (sq_tm e S w))) 72 (va_cpy (ms_I (ms_sI u 60 2 (nI (sq_tm e S w))) 71) (ms_I (ms_sI u 60 2 (nI (sq_tm e S w))) 72) 0 0 3)) → pv w89 := by
        intro hlt w89 e89
        have f : ∀ a b, ms_I w89 a b = if a = 72 ∧ b < 3 then ms_I u 71 b else if a = 60 ∧ b = 2 then nI (sq_tm e S w) else ms_I u a b := by
          intro a b
          rw [e89, sA_cpy]
          by_cases q : a = 72 ∧ b < 3
          · rw [if_pos q, if_pos q, I_sI, if_neg (by omega)]
          · rw [if_neg q, if_neg q, I_sI]
        refine h1 hlt w89 ⟨fun a b q1 q2 q3 => ?_, by rw [e89]; rfl⟩ (fun x => ?_) ?_ (fun x hx => ?_)
        · rw [f, if_neg (by omega), if_neg q3]
        · rw [f, if_neg (by omega), if_neg (by omega)]
        · rw [f, if_neg (by omega), if_pos ⟨rfl, rfl⟩]
        · rw [f, if_pos ⟨rfl, by omega⟩]; exact (hS x hx).2
      refine ⟨fun _ => td_NO (fun q => up (by omega)) (fun q => ?_), fun q => absurd (nI_le (Nat.le_refl _) (by omega)) q⟩
      rw [td_near q]
      exact pk_le B (sq_tm e S w) (fun q2 => h2 q2) (fun q2 => up q2)
    | succ m ih =>
      intro w hw ht
      have hwn : w < n := by omega
      obtain ⟨s1, s2⟩ := hS w hwn
      have ih := ih (w + 1) (by omega)
      have vw : vp_in (nI w) 3 := vp_in_nI (by omega) (by omega)
      rw [tm_s] at ih
      unfold wp_X2_judgeShares_4 wp_X2_judgeShares_51
      rw [hE.2.1, at_60_13, at_60_12, nI_clamp (show w < 2 ^ 31 by omega), s2, nI_1 w, show (256 : Int32) = nI 256 from rfl, pk_mul, nI_add, nI_clamp (show w * 256 + S w < 2 ^ 31 by omega), hE.2.2 w (S w) hwn s1]
      refine ⟨fun q => absurd q (nI_ge (by omega) (by omega)), fun _ => ⟨vw, pk_eq (S w) 0 (fun q => ?_) (fun q => ⟨vw, vp_in_nI (by omega) (by omega), fun v38 e38 => ?_⟩)⟩⟩
      · rw [if_neg (fun z => z.1 q)] at ih
        exact ih ht
      · subst e38
        refine td_NO (fun q2 => h2 ?_) (fun q2 v50 e50 => ?_)
        · have hm := tm_mono (e := e) (S := S) (w + 1) n (by omega)
          rw [tm_s, if_pos ⟨q, by omega⟩] at hm
          omega
        · rw [td_near q2] at e50
          by_cases c : sq_tm e S w < e w (S w)
          · rw [if_pos ⟨q, c⟩] at ih
            rw [if_pos (nI_lt c (by omega))] at e50
            rw [e50]
            exact ih q2
          · rw [if_neg (fun z => c z.2)] at ih
            rw [if_neg (nI_nlt (by omega) (by omega))] at e50
            rw [e50]
            exact ih ht
  unfold wp_X2_judgeShares
  exact ⟨n + 1, st n 0 (by omega) (by show 0 < 1000000; omega)⟩
theorem gv_tr {v : ms_St} (h : gv_F u0 u) (h2 : gv_F u v) : gv_F u0 v := ⟨fun a b q1 q2 q3 => (h2.1 a b q1 q2 q3).trans (h.1 a b q1 q2 q3), h2.2.trans h.2⟩
theorem c_give (hn : n ≤ 3) (hM : M ≤ 8) (he : ∀ w S, w < n → S < 2 ^ M → e w S ≤ 1000000) (hE : gv_E u0 e n M) : ∀ r d m p u (post : ms_St → Prop), r < d → m + r = M → gv_F u0 u → (∀ w, w < n → ms_I u 71 w = nI (sq_sh n m p w)) → gv_B u (sq_T e n M) n M (p * n ^ r) → (∀ u', gv_F u0 u' → (∀ w, w < n → ms_I u' 71 w = nI (sq_sh n m p w)) → gv_B u' (sq_T e n M) n M ((p + 1) * n ^ r) → post u') → WP_X2_giveFrom ms_E0 d u 60 (nI m) post := by
  intro r
  induction r with
  | zero =>
    intro d m p u post hd hm hF hS hB hp
    obtain ⟨d', rfl⟩ : ∃ d', d = d' + 1 := ⟨d - 1, by omega⟩
    have eM : m = M := by omega
    subst eM
    rw [Nat.pow_zero, Nat.mul_one] at hB
    simp only [Nat.pow_zero, Nat.mul_one] at hp
    have hE' := gv_Ek hF hE
    show wp_X2_giveFrom ms_E0 (WP_X2_giveFrom ms_E0 d') u 60 (nI m) post
    unfold wp_X2_giveFrom
    rw [hE'.1]
    refine ⟨fun q => absurd q (nI_nlt (Nat.le_refl _) (by omega)), fun _ => c_judge (S := sq_sh n m p) hn hM he hE' (fun w hw => ⟨sh_lt _ _ _, hS w hw⟩) hB.1 (bt_le _) (fun hlt u' hF' h71 h2 h72 => ?_) (fun hge => ?_)⟩
    · have e1 : sq_bt (sq_T e n m) (p + 1) = sq_tm e (sq_sh n m p) n := if_pos hlt
      have e2 : sq_bi (sq_T e n m) (p + 1) = p + 1 := if_pos hlt
      have hb := bt_le (T := sq_T e n m) p
      refine hp u' (gv_tr hF hF') (fun w hw => by rw [h71 w]; exact hS w hw) ⟨?_, fun _ w hw => ?_⟩
      · rw [h2, e1, td_near (by omega)]
      · rw [e2, Nat.add_sub_cancel]; exact h72 w hw
    · have e1 : sq_bt (sq_T e n m) (p + 1) = sq_bt (sq_T e n m) p := if_neg (Nat.not_lt.mpr hge)
      have e2 : sq_bi (sq_T e n m) (p + 1) = sq_bi (sq_T e n m) p := if_neg (Nat.not_lt.mpr hge)
      refine hp u hF hS ?_
      unfold gv_B
      rw [e1, e2]
      exact hB
  | succ r IH =>
    intro d m p u post hd hm hF hS hB hp
    obtain ⟨d', rfl⟩ : ∃ d', d = d' + 1 := ⟨d - 1, by omega⟩
    have hE' := gv_Ek hF hE
    have loop : ∀ k w v, w + k = n → gv_F u0 v → (∀ x, x < n → ms_I v 71 x = nI (sq_sh n m p x)) → gv_B v (sq_T e n M) n M ((p * n + w) * n ^ r) → wp_X2_giveFrom_15 ms_E0 (WP_X2_giveFrom ms_E0 d') 60 (nI m) post (k + 1) v (nI w) := by
      intro k
      induction k with
      | zero =>
        intro w v hw hFv hSv hBv
        have ew : w = n := by omega
        subst ew
        unfold wp_X2_giveFrom_15
        rw [(gv_Ek hFv hE).2.1]
        refine ⟨fun _ => hp v hFv hSv ?_, fun q => absurd (nI_le (Nat.le_refl _) (by omega)) q⟩
        have : (p + 1) * w ^ (r + 1) = (p * w + w) * w ^ r := by rw [Nat.pow_succ, Nat.mul_comm (w ^ r) w, ← Nat.mul_assoc, Nat.add_mul, Nat.one_mul]
        rw [this]
        exact hBv
      | succ k ih =>
        intro w v hw hFv hSv hBv
        have hwn : w < n := by omega
        obtain ⟨d1, d2⟩ := dm_d (pv := p) hwn
        have vw : vp_in (nI w) 3 := vp_in_nI (by omega) (by omega)
        unfold wp_X2_giveFrom_15
        rw [(gv_Ek hFv hE).2.1, at_60_13, nI_clamp (show w < 2 ^ 31 by omega), hSv w hwn, bt_1 (by omega), bt_or, nI_1 w, nI_1 m]
        refine ⟨fun q => absurd q (nI_ge (by omega) (by omega)), fun _ => ⟨vw, vw, fun w34 e34 => ?_⟩⟩
        have s34 : ∀ x, x < n → ms_I w34 71 x = nI (sq_sh n (m + 1) (p * n + w) x) := by
          intro x hx
          rw [e34, I_sI, sh_s, d1, d2]
          by_cases q : x = w
          · rw [if_pos ⟨rfl, q⟩, if_pos q.symm, q]
          · rw [if_neg (by omega), if_neg (fun z => q z.symm), Nat.or_zero]
            exact hSv x hx
        refine IH d' (m + 1) (p * n + w) w34 _ (by omega) (by omega) ⟨fun a b q1 q2 q3 => ?_, ?_⟩ s34 ?_ (fun u39 hF39 hS39 hB39 => ⟨vw, vw, fun w53 e53 => ?_⟩)
        · rw [e34, I_sI, if_neg (by omega)]; exact hFv.1 a b q1 q2 q3
        · rw [e34]; exact hFv.2
        · unfold gv_B
          rw [e34, I_sI, if_neg (by omega)]
          refine ⟨hBv.1, fun z x hx => ?_⟩
          rw [I_sI, if_neg (by omega)]
          exact hBv.2 z x hx
        · have hx := sh_lt (n := n) m p w
          rw [hS39 w hwn, sh_s, d1, d2, if_pos rfl, bt_xor, ox m (by omega) _ hx] at e53
          subst e53
          refine ih (w + 1) _ (by omega) ⟨fun a b q1 q2 q3 => ?_, hF39.2⟩ (fun x hx2 => ?_) ⟨?_, fun z x hx2 => ?_⟩
          · rw [I_sI, if_neg (by omega)]; exact hF39.1 a b q1 q2 q3
          · rw [I_sI]
            by_cases q : x = w
            · rw [if_pos ⟨rfl, q⟩, q]
            · rw [if_neg (by omega), hS39 x hx2, sh_s, d1, d2, if_neg (fun z => q z.symm), Nat.or_zero]
          · rw [I_sI, if_neg (by omega)]; exact hB39.1
          · rw [I_sI, if_neg (by omega)]; exact hB39.2 z x hx2
    show wp_X2_giveFrom ms_E0 (WP_X2_giveFrom ms_E0 d') u 60 (nI m) post
    unfold wp_X2_giveFrom
    rw [hE'.1]
    refine ⟨fun _ => ⟨n + 1, loop n 0 u (by omega) hF hS ?_⟩, fun q => absurd (nI_lt (by omega) (by omega)) q⟩
    have : (p * n + 0) * n ^ r = p * n ^ (r + 1) := by rw [Nat.add_zero, Nat.pow_succ, Nat.mul_comm (n ^ r) n, Nat.mul_assoc]
    rw [this]
    exact hB
end DV
