/-! ===== the class's division ===== -/
def sq_TT (D : Nat → Nat) (l : List ms_Op) (s : Nat) : Nat → Nat := sq_T (sq_en D l s) (D 3) (sp_cn s (D 2))
/-- the first walker from i on that has member k -/
def sq_wh (S : Nat → Nat) (k : Nat) : Nat → Nat → Int32
  | 0, _ => -1
  | m + 1, i => if (S i).testBit k = true then nI i else sq_wh S k m (i + 1)
section DC
variable {D : Nat → Nat} {l : List ms_Op} {u u0 : ms_St} {s w : Nat} {post : Int32 → ms_St → Prop} {pv : ms_St → Prop}
theorem B_keep {u1 : ms_St} (hB : cq_B u D l s) (h : ∀ a b, (62 ≤ a ∧ a ≤ 66) ∨ (a = 60 ∧ b = 0) → ms_I u1 a b = ms_I u a b) : cq_B u1 D l s := by
  obtain ⟨⟨n0, n1⟩, hw⟩ := hB
  refine ⟨⟨by rw [h 60 0 (by omega)]; exact n0, fun k hk => ?_⟩, fun a b h1 h2 h3 => by rw [h 66 _ (by omega)]; exact hw a b h1 h2 h3⟩
  rw [h 62 k (by omega), h 63 k (by omega), h 64 k (by omega), h 65 k (by omega)]
  exact n1 k hk
theorem cq_tr {v : ms_St} (h : cq_F u0 u) (h2 : cq_F u v) : cq_F u0 v := ⟨fun a b q => (h2.1 a b q).trans (h.1 a b q), h2.2.trans h.2⟩
theorem c_divide (hV : sp_V D l) (hT : sp_R (sp_T u 2) D l) (hW : sp_cw u D) (hs : s < 2 ^ 31) (hc : sp_cn s (D 2) ≤ 8) (hp : ∀ u', cq_F u u' → ms_I u' 60 0 = nI (sp_cn s (D 2)) → ms_I u' 60 15 = nI (D 3) → (∀ k, k < sp_cn s (D 2) → ms_I u' 62 k = nI (sp_mb s (D 2) k)) → gv_B u' (sq_TT D l s) (D 3) (sp_cn s (D 2)) (D 3 ^ sp_cn s (D 2)) → pv u') : wp_X2_divide ms_E0 u 60 2 49 (nI s) pv := by
  have c3 := hV.1.2.2.2.1
  have h8 := pw8 _ hc
  unfold wp_X2_divide
  rw [at_2_5]
  refine c_choose hV hT hW hs hc (fun u1 hF1 hB1 => ⟨D 3 + 1, ?_⟩)
  have e17 : ms_I u1 17 0 = nI (D 3) := (cq_T hF1 hT).1.2.2.2.2.2
  rw [e17]
  have st : ∀ m w v, w + m = D 3 → cq_F u v → cq_B v D l s → ms_I v 60 15 = nI (D 3) → (∀ x S, x < w → S < 2 ^ sp_cn s (D 2) → ms_I v 70 (x * 256 + S) = sp_td (sq_en D l s x S)) → (∀ x, x < w → ms_I v 71 x = 0) → wp_X2_divide_21 ms_E0 60 2 49 (nI s) pv (m + 1) v (nI w) := by
    intro m
    induction m with
    | zero =>
      intro w v hw hF hB h15 h70 h71
      have ew : w = D 3 := by omega
      subst ew
      unfold wp_X2_divide_21
      rw [h15]
      refine ⟨fun _ => ?_, fun q => absurd (nI_le (Nat.le_refl _) (by omega)) q⟩
      have k2 : ∀ a b, ¬ (a = 60 ∧ b = 2) → ms_I (ms_sI v 60 2 (-1)) a b = ms_I v a b := fun a b q => by rw [I_sI, if_neg q]
      have hE : gv_E (ms_sI v 60 2 (-1)) (sq_en D l s) (D 3) (sp_cn s (D 2)) := ⟨by rw [k2 60 0 (by omega)]; exact hB.1.1, by rw [k2 60 15 (by omega)]; exact h15, fun x S hx hS => by rw [k2 70 _ (by omega)]; exact h70 x S hx hS⟩
      refine c_give (u0 := ms_sI v 60 2 (-1)) (n := D 3) (M := sp_cn s (D 2)) (e := sq_en D l s) c3 hc (fun x S hx hS => ?_) hE (sp_cn s (D 2)) 9 0 0 _ _ (by omega) (by omega) ⟨fun _ _ _ _ _ => rfl, rfl⟩ (fun x hx => ?_) ⟨?_, fun z => ?_⟩ (fun u' hF' hS' hB' => ?_)
      · have := se_v (sq_A_ok (s := s) (w := x) hV hx hc) (show S < 256 by omega)
        show sq_se (sq_A D l s x) S ≤ 1000000
        omega
      · rw [k2 71 x (by omega), h71 x hx]; rfl
      · rw [Nat.zero_mul, I_sI, if_pos ⟨rfl, rfl⟩]; rfl
      · rw [Nat.zero_mul] at z
        exact absurd rfl z
      · rw [Nat.zero_add, Nat.one_mul] at hB'
        have hF2 : cq_F v u' := ⟨fun a b q => by rw [hF'.1 a b (by omega) (by omega) (by omega), k2 a b (by omega)], hF'.2⟩
        refine hp u' (cq_tr hF hF2) ?_ ?_ (fun k hk => ?_) hB'
        · rw [hF'.1 60 0 (by omega) (by omega) (by omega), k2 60 0 (by omega)]; exact hB.1.1
        · rw [hF'.1 60 15 (by omega) (by omega) (by omega), k2 60 15 (by omega)]; exact h15
        · rw [hF'.1 62 k (by omega) (by omega) (by omega), k2 62 k (by omega)]; exact (hB.1.2 k hk).1
    | succ m ih =>
      intro w v hw hF hB h15 h70 h71
      have hwn : w < D 3 := by omega
      have hA := sq_A_ok (s := s) (w := w) hV hwn hc
      unfold wp_X2_divide_21
      rw [h15]
      refine ⟨fun q => absurd q (nI_ge (by omega) (by omega)), fun _ => c_beginAt hV (cq_T hF hT) (cq_cw hF hW) hc hwn hB (fun v2 hF2 hu2 => c_findEarly hA hu2 (fun v3 hF3 hT3 => ⟨2 ^ sp_cn s (D 2) + 1, ?_⟩))⟩
      have hu3 := fr_A hF3 (by omega) hu2
      have k3 : ∀ a b, a ≠ 67 → a ≠ 68 → ¬ (a = 60 ∧ b = 9) → ms_I v3 a b = ms_I v a b := fun a b q1 q2 q3 => by rw [hF3.1 a b q2, hF2.1 a b q1 q3]
      have inner : ∀ n x v4, x + n = 2 ^ sp_cn s (D 2) → fr 70 v3 v4 → (∀ y S, y < w → S < 2 ^ sp_cn s (D 2) → ms_I v4 70 (y * 256 + S) = sp_td (sq_en D l s y S)) → (∀ S, S < x → ms_I v4 70 (w * 256 + S) = sp_td (sq_en D l s w S)) → wp_X2_divide_45 ms_E0 60 2 49 (nI s) pv (wp_X2_divide_21 ms_E0 60 2 49 (nI s) pv (m + 1)) (n + 1) v4 (nI w) (nI x) := by
        intro n
        induction n with
        | zero =>
          intro x v4 hx hF4 hy hS
          have ex : x = 2 ^ sp_cn s (D 2) := by omega
          have hu4 := fr_A hF4 (by omega) hu3
          have i0 : ms_I v4 60 0 = nI (sp_cn s (D 2)) := hu4.1
          unfold wp_X2_divide_45
          rw [i0, bt_1 (by omega), ex, at_60_13, nI_clamp (show w < 2 ^ 31 by omega), nI_1 w]
          rw [ex] at hS
          have k4 : ∀ a b, a ≠ 67 → a ≠ 68 → a ≠ 70 → a ≠ 71 → ¬ (a = 60 ∧ b = 9) → ms_I (ms_sI v4 71 w 0) a b = ms_I v a b := fun a b q1 q2 q3 q4 q5 => by rw [I_sI, if_neg (by omega), hF4.1 a b q3, k3 a b q1 q2 q5]
          refine ⟨fun _ => ⟨vp_in_nI (by omega) (by omega), ih (w + 1) _ (by omega) ⟨fun a b q => ?_, ?_⟩ (B_keep hB (fun a b q => k4 a b (by omega) (by omega) (by omega) (by omega) (by omega))) ?_ (fun y S hy2 hS2 => ?_) (fun y hy2 => ?_)⟩, fun q => absurd (nI_le (Nat.le_refl _) (by omega)) q⟩
          · rw [k4 a b (by omega) (by omega) (by omega) (by omega) (by omega)]; exact hF.1 a b q
          · rw [J_sI, hF4.2, hF3.2, hF2.2]; exact hF.2
          · rw [k4 60 15 (by omega) (by omega) (by omega) (by omega) (by omega)]; exact h15
          · rw [I_sI, if_neg (by omega)]
            by_cases q : y = w
            · rw [q]; exact hS S hS2
            · exact hy y S (by omega) hS2
          · rw [I_sI]
            by_cases q : y = w
            · rw [if_pos ⟨rfl, q⟩]
            · rw [if_neg (by omega), hF4.1 71 y (by omega), k3 71 y (by omega) (by omega) (by omega)]
              exact h71 y (by omega)
        | succ n ih2 =>
          intro x v4 hx hF4 hy hS
          have hu4 := fr_A hF4 (by omega) hu3
          have i0 : ms_I v4 60 0 = nI (sp_cn s (D 2)) := hu4.1
          have hT4 : fe_T v4 (sq_A D l s w) (2 ^ qM (sq_A D l s w)) 0 := fun a b h1 h2 h3 => by rw [hF4.1 68 _ (by omega)]; exact hT3 a b h1 h2 h3
          unfold wp_X2_divide_45
          rw [i0, bt_1 (by omega), at_60_12, nI_1 x, show (256 : Int32) = nI 256 from rfl, pk_mul, nI_add, nI_clamp (show w * 256 + x < 2 ^ 31 by omega)]
          refine ⟨fun q => absurd q (nI_ge (by omega) (by omega)), fun _ => c_earliestEnd hA hu4 (show x < 2 ^ sp_cn s (D 2) by omega) hT4 ⟨vp_in_nI (by omega) (by omega), ih2 (x + 1) _ (by omega) (fr_w hF4) (fun y S hy2 hS2 => ?_) (fun S hS2 => ?_)⟩⟩
          · rw [I_sI, if_neg (by omega)]; exact hy y S hy2 hS2
          · rw [I_sI]
            by_cases q : S = x
            · rw [if_pos ⟨rfl, by rw [q]⟩, q]; rfl
            · rw [if_neg (by omega)]; exact hS S (by omega)
      exact inner _ 0 v3 (by omega) ⟨fun _ _ _ => rfl, rfl⟩ (fun y S hy hS => by rw [k3 70 _ (by omega) (by omega) (by omega)]; exact h70 y S hy hS) (fun S hS => by omega)
  refine st (D 3) 0 _ (by omega) ⟨fun a b q => ?_, hF1.2⟩ (B_keep hB1 (fun a b q => by rw [I_sI, if_neg (by omega)])) (by rw [I_sI, if_pos ⟨rfl, rfl⟩]) (fun x S hx _ => by omega) (fun x hx => by omega)
  rw [I_sI, if_neg (by omega)]; exact hF1.1 a b q
theorem c_chosen {S : Nat → Nat} {n M h k0 : Nat} {mb : Nat → Nat} (hn : n ≤ 3) (hM : M ≤ 8) (hk : k0 < M) (hmb : mb k0 = h) (hinj : ∀ k, k < M → k ≠ k0 → mb k ≠ h) (hb : ∀ k, k < M → mb k < 2 ^ 30) (hS : ∀ w, w < n → S w < 2 ^ 31) (e0 : ms_I u 60 0 = nI M) (e15 : ms_I u 60 15 = nI n) (hm : ∀ k, k < M → ms_I u 62 k = nI (mb k)) (h72 : ∀ w, w < n → ms_I u 72 w = nI (S w)) (hne : ¬ ms_I u 60 2 = -1) (hp : post (sq_wh S k0 n 0) u) : wp_X2_chosenWalker ms_E0 u 60 (nI h) post := by
  have neq : ∀ k, k < M → k ≠ k0 → ¬ nI (mb k) = nI h := by
    intro k h1 h2 e
    have b1 := hb k h1
    have b2 := hb k0 hk
    have : (nI (mb k)).toInt = (nI h).toInt := by rw [e]
    rw [nI_toInt (by omega), nI_toInt (by omega)] at this
    exact hinj k h1 h2 (by omega)
  have inner : ∀ m w k (k12 : ms_St → Int32 → Prop), w + m = n → k < M → (k ≠ k0 → k12 u (nI (k + 1))) → (k = k0 → ((∃ x, w ≤ x ∧ x < n ∧ (S x).testBit k0 = true) → post (sq_wh S k0 m w) u) ∧ ((¬ ∃ x, w ≤ x ∧ x < n ∧ (S x).testBit k0 = true) → k12 u (nI (k + 1)))) → wp_X2_chosenWalker_22 ms_E0 60 (nI h) post k12 (m + 1) u (nI k) (nI w) := by
    intro m
    induction m with
    | zero =>
      intro w k k12 hw hkM h1 h2
      unfold wp_X2_chosenWalker_22
      rw [e15, nI_1 k]
      refine ⟨fun _ => ?_, fun q => absurd (nI_le (by omega) (by omega)) q⟩
      by_cases q : k = k0
      · exact (h2 q).2 (fun ⟨x, x1, x2, _⟩ => by omega)
      · exact h1 q
    | succ m ih =>
      intro w k k12 hw hkM h1 h2
      have ih := ih (w + 1) k k12 (by omega) hkM h1
      unfold wp_X2_chosenWalker_22 wp_X2_chosenWalker_55
      rw [e15, at_60_3, at_60_14, nI_clamp (show k < 2 ^ 31 by omega), nI_clamp (show w < 2 ^ 31 by omega), hm k hkM, h72 w (by omega), nI_1 w]
      refine ⟨fun q => absurd q (nI_ge (by omega) (by omega)), fun _ => ⟨vp_in_nI (by omega) (by omega), fun q => ?_, fun q => ?_⟩⟩
      · have ek : k = k0 := Classical.byContradiction (fun z => neq k hkM z q)
        refine ⟨vp_in_nI (by omega) (by omega), q_cont (hS w (by omega)) (by omega) (fun b => ?_) (fun b => ih (fun z => ⟨fun ⟨x, x1, x2, x3⟩ => ?_, fun hno => (h2 z).2 (fun ⟨x, x1, x2, x3⟩ => ?_)⟩))⟩
        · rw [ek] at b
          have := (h2 ek).1 ⟨w, Nat.le_refl _, by omega, b⟩
          unfold sq_wh at this
          rw [if_pos b] at this
          exact this
        · have := (h2 z).1 ⟨x, by omega, x2, x3⟩
          unfold sq_wh at this
          rw [z] at b
          rw [if_neg (by rw [b]; decide)] at this
          exact this
        · refine hno ⟨x, ?_, x2, x3⟩
          by_cases c : x = w
          · rw [c] at x3
            rw [z, x3] at b
            exact absurd b (by decide)
          · omega
      · refine ih (fun z => ?_)
        rw [z, hmb] at q
        exact absurd rfl q
  have outer : ∀ m k, k + m = M → (k0 < k → ¬ ∃ x, x < n ∧ (S x).testBit k0 = true) → wp_X2_chosenWalker_12 ms_E0 60 (nI h) post (m + 1) u (nI k) := by
    intro m
    induction m with
    | zero =>
      intro k hkm hno
      unfold wp_X2_chosenWalker_12
      rw [e0]
      refine ⟨fun _ => ?_, fun q => absurd (nI_le (by omega) (by omega)) q⟩
      have none : ∀ m w, w + m = n → sq_wh S k0 m w = -1 := by
        intro m
        induction m with
        | zero => intro w _; rfl
        | succ m ih =>
          intro w hw
          unfold sq_wh
          rw [if_neg (fun z => hno (by omega) ⟨w, by omega, z⟩)]
          exact ih (w + 1) (by omega)
      rw [none n 0 (by omega)] at hp
      exact hp
    | succ m ih =>
      intro k hkm hno
      have ih := ih (k + 1) (by omega)
      unfold wp_X2_chosenWalker_12
      rw [e0]
      refine ⟨fun q => absurd q (nI_ge (by omega) (by omega)), fun _ => ⟨n + 1, inner n 0 k _ (by omega) (by omega) (fun z => ih (fun h1 => hno (by omega))) (fun z => ⟨fun _ => hp, fun hno2 => ih (fun _ ⟨x, x1, x2⟩ => hno2 ⟨x, by omega, x1, x2⟩)⟩)⟩⟩
  unfold wp_X2_chosenWalker
  exact ⟨fun q => absurd q hne, fun _ => ⟨M + 1, outer M 0 (by omega) (fun h => by omega)⟩⟩
end DC
