/-! ===== the class reads the whole text ===== -/
theorem cI_32 {x : Int} (h1 : -2147483648 ≤ x) (h2 : x < 2147483648) : (Int32.ofInt x).toInt = x := Int32.toInt_ofInt_of_le h1 (by omega)
section CR
variable {B : Nat → Nat} {N q : Nat} {D : Nat → Nat} {l : List ms_Op} {u u0 : ms_St} {pv : ms_St → Prop} {post : Int32 → ms_St → Prop}
theorem hd_ok {q' : Nat} {D' : Nat → Nat} {l' : List ms_Op} (he : pz_hd B N = Sum.inr (q', D', l')) : q' ≤ N ∧ pw D' l' := by
  unfold pz_hd at he
  by_cases c : pz_wd B N w_town (pz_s B N 0) = true
  · rw [if_pos c] at he
    obtain ⟨v, q2, n1, he⟩ := nb_inr he
    have hle : pz_s B N 0 + 4 ≤ N := wd_pos (s_le (by omega)) (wk_mem k1) c
    obtain ⟨x1, x2, x3, x4, x5, _⟩ := n_ok (s_le hle) n1
    unfold pz_sc at he
    by_cases c2 : pz_at B N q2 = 59
    · rw [if_pos c2] at he
      have hlt : q2 < N := by
        by_cases z : q2 < N
        · exact z
        · unfold pz_at at c2; rw [if_neg z] at c2; omega
      have e0 := Sum.inr.inj he
      have e1 : pz_s B N (q2 + 1) = q' := congrArg Prod.fst e0
      have e2 : sp_u Dz 0 v = D' := congrArg (fun z => z.2.1) e0
      have e3 : [] = l' := congrArg (fun z => z.2.2) e0
      rw [← e1, ← e2, ← e3]
      have F : ∀ k, k ≠ 0 → k ≠ 5 → sp_u Dz 0 v k = 0 := fun k z1 z2 => by rw [u_at, if_neg z1]; unfold Dz; rw [if_neg z2]
      have F0 : sp_u Dz 0 v 0 = v := by rw [u_at, if_pos rfl]
      have F5 : sp_u Dz 0 v 5 = 60 := by rw [u_at, if_neg (by omega)]; rfl
      refine ⟨s_le (by omega), ⟨?_, ?_, ?_, ?_, ?_, ?_, ?_, ?_, ?_, ?_⟩, fun s z => ?_, fun s z => ?_, fun s z => ?_, fun s z => ?_, fun s z => ?_, fun z => ?_, fun z => ?_⟩
      · rw [F0]; omega
      · rw [F0]; omega
      · rw [F 1 (by omega) (by omega)]; omega
      · rw [F 2 (by omega) (by omega)]; omega
      · rw [F 3 (by omega) (by omega)]; omega
      · rw [F 4 (by omega) (by omega)]; omega
      · rw [F5]; omega
      · rw [F 6 (by omega) (by omega)]; omega
      · rw [F 2000 (by omega) (by omega)]; omega
      · rw [F 2001 (by omega) (by omega)]; omega
      · rw [F 1 (by omega) (by omega)] at z; omega
      · exact F _ (by omega) (by omega)
      · rw [F 2 (by omega) (by omega)] at z; omega
      · rw [F 3 (by omega) (by omega)] at z; omega
      · exact F _ (by omega) (by omega)
      · exact ⟨rfl, F 7 (by omega) (by omega)⟩
      · rw [F 6 (by omega) (by omega)] at z; omega
    · rw [if_neg c2] at he; cases he
  · rw [if_neg c] at he; cases he
theorem c_head (hB : bt_C u0 B N) (hz : cz u0 u B N (pz_s B N 0) Dz []) (hp : cs_P u0 B N post (pz_hd B N)) : wp_X3_header ms_E0 u 23 post := by
  obtain ⟨g1, g2, g3, g4, g5, g6, g7, g8, g9⟩ := id hz
  unfold wp_X3_header wp_X3_fail
  rw [at_23_0, at_23_3]
  unfold pz_hd at hp
  refine c_isWord k1 (by decide) (cz_B hB hz) g2 g3 ?_
  by_cases c : pz_wd B N w_town (pz_s B N 0) = true
  · rw [if_pos c] at hp ⊢
    refine ⟨fun z => absurd z (by decide), fun _ => ?_⟩
    refine z_word k1 (by decide) hB hz c (fun u1 hz1 => ?_)
    refine z_num (post := post) (lo := 1) (hx := 11) hB hz1 (by omega) (by omega) rfl rfl _ hp (fun v hv => ⟨fun _ => hv, fun z => absurd rfl z⟩) (fun v q2 n1 hp u2 hz2 => ⟨fun z => absurd z (NO_ne (by have := (n_ok hz1.2.1 n1).2.2.2.2.1; omega)), fun _ => ?_⟩)
    have F : ∀ k, k ≠ 0 → k ≠ 5 → sp_u Dz 0 v k = 0 := fun k z1 z2 => by rw [u_at, if_neg z1]; unfold Dz; rw [if_neg z2]
    have F0 : sp_u Dz 0 v 0 = v := by rw [u_at, if_pos rfl]
    have G := hz2.2.2.2.2.2.1.1
    have hz3 : cz u0 (ms_sI u2 24 0 (nI v)) B N q2 (sp_u Dz 0 v) [] := by
      refine cz_T hz2 (fun x y z => h1_at (by omega)) rfl ⟨⟨?_, ?_, ?_, ?_, ?_, ?_⟩, fun s z => ?_, fun s z => ?_, fun s z => ?_⟩ ?_ ?_ ?_
      · rw [F0]; show ms_I (ms_sI u2 24 0 (nI v)) 24 0 = nI v; rw [h2_at, if_pos rfl]
      · show ms_I (ms_sI u2 24 0 (nI v)) 24 1 = _; rw [h2_at, if_neg (by omega), u_at, if_neg (by omega)]; exact G.2.1
      · show ms_I (ms_sI u2 24 0 (nI v)) 24 2 = _; rw [h2_at, if_neg (by omega), u_at, if_neg (by omega)]; exact G.2.2.1
      · show ms_I (ms_sI u2 24 0 (nI v)) 25 0 = _; rw [h1_at (by omega), u_at, if_neg (by omega)]; exact G.2.2.2.1
      · show ms_I (ms_sI u2 24 0 (nI v)) 30 0 = _; rw [h1_at (by omega), u_at, if_neg (by omega)]; exact G.2.2.2.2.1
      · show ms_I (ms_sI u2 24 0 (nI v)) 39 0 = _; rw [h1_at (by omega), u_at, if_neg (by omega)]; exact G.2.2.2.2.2
      · rw [F 1 (by omega) (by omega)] at z; omega
      · rw [F 2 (by omega) (by omega)] at z; omega
      · rw [F 3 (by omega) (by omega)] at z; omega
      · rw [u_at, if_neg (by omega)]
      · rw [u_at, if_neg (by omega)]
      · rw [u_at, if_neg (by omega)]
    unfold pz_sc at hp
    refine c_expect (a := 59) (cz_B hB hz3) hz3.2.1 hz3.2.2.1 (Or.inr rfl) (fun z => ?_) (fun z u4 hF4 ht4 => ?_)
    · rw [if_neg z] at hp
      exact ⟨Or.inl rfl, cs_fail (c := 2) hz3.1 rfl hp⟩
    · rw [if_pos z] at hp
      have hlt := (tk_sign hz3.2.2.1 (Or.inr rfl) z).2
      exact ⟨Or.inr rfl, hp u4 (cz_adv hz3 (s_le (by omega)) hF4 ht4)⟩
  · rw [if_neg c] at hp ⊢
    rw [z_f1 hz]
    exact ⟨fun _ => ⟨Or.inl rfl, cs_fail (c := 2) g1 rfl hp⟩, fun z => absurd rfl z⟩
/-! the minutes of a visit -/
def vs_I (u : ms_St) : List Int → Prop
  | [] => True
  | x :: r => ms_I u 48 r.length = Int32.ofInt x ∧ vs_B x ∧ vs_I u r
theorem vs_I_w {k : Nat} {v : Int32} : ∀ {st : List Int}, st.length ≤ k → vs_I u st → vs_I (ms_sI u 48 k v) st
  | [], _, _ => trivial
  | x :: r, hk, h => by
    refine ⟨?_, h.2.1, vs_I_w (by simp at hk; omega) h.2.2⟩
    rw [I_sI, if_neg (by simp at hk; omega)]
    exact h.1
theorem c_clamp {z : Int} (h1 : -10000000000000 ≤ z) (h2 : z ≤ 10000000000000) {a0 a1 a2 : Int32} (hp : post (Int32.ofInt (sp_cl z)) u) : wp_X8_combine_56 ms_E0 a0 a1 a2 post u (Int64.ofInt z) := by
  have e1 : (1000000 : Int64) = Int64.ofInt 1000000 := rfl
  have e2 : (-1000000 : Int64) = Int64.ofInt (-1000000) := rfl
  have L : ∀ {x : Int}, -10000000000000 ≤ x → x ≤ 10000000000000 → (Int64.ofInt x).toInt = x := fun a b => L_toInt a b
  have e3 : (if 1000000 < Int64.ofInt z then (1000000 : Int64) else Int64.ofInt z) = Int64.ofInt (if 1000000 < z then 1000000 else z) := by
    rw [e1, Int64.lt_iff_toInt_lt, L (by omega) (by omega), L h1 h2]
    split <;> rfl
  have hb : -10000000000000 ≤ (if 1000000 < z then 1000000 else z) ∧ (if 1000000 < z then 1000000 else z) ≤ 10000000000000 := by split <;> omega
  unfold wp_X8_combine_56
  rw [e3, e2, Int64.lt_iff_toInt_lt, L hb.1 hb.2, L (by omega) (by omega)]
  have e4 : sp_cl z = if (if 1000000 < z then 1000000 else z) < -1000000 then -1000000 else (if 1000000 < z then 1000000 else z) := by
    unfold sp_cl
    split
    · rw [if_neg (by omega)]
    · rfl
  rw [e4] at hp
  split
  · rename_i h
    rw [if_pos h] at hp
    rw [Int64.toInt32_ofInt]; exact hp
  · rename_i h
    rw [if_neg h] at hp
    rw [Int64.toInt32_ofInt]; exact hp
theorem cl_id {z : Int} (h : vs_B z) : sp_cl z = z := by
  unfold vs_B at h
  unfold sp_cl
  rw [if_neg (by omega), if_neg (by omega)]
theorem c_combine {k v : Nat} {x y : Int} (hk : 2 ≤ k ∧ k ≤ 5) (hx : vs_B x) (hy : vs_B y) (hp : post (Int32.ofInt (sp_op k x y)) u) : wp_X8_combine ms_E0 u (cd (k, v)) (Int32.ofInt x) (Int32.ofInt y) post := by
  have hm := mul_B hx hy
  have hx' := hx
  have hy' := hy
  unfold vs_B at hx' hy'
  have tx : (Int32.ofInt x).toInt = x := cI_32 (by omega) (by omega)
  have ty : (Int32.ofInt y).toInt = y := cI_32 (by omega) (by omega)
  have L : ∀ {z : Int}, -2000000000 ≤ z → z ≤ 2000000000 → Int32.toInt64 (Int32.ofInt z) = Int64.ofInt z := by
    intro z a b
    rw [← Int64.toInt_inj, Int32.toInt_toInt64, cI_32 (by omega) (by omega), L_toInt (by omega) (by omega)]
  unfold sp_op at hp
  unfold wp_X8_combine wp_X8_combine_55
  have hk' : k = 2 ∨ k = 3 ∨ k = 4 ∨ k = 5 := by omega
  rcases hk' with rfl | rfl | rfl | rfl
  · rw [show cd (2, v) = -4 from rfl]
    refine ⟨fun _ v10 e10 => ?_, fun z => absurd rfl z⟩
    rw [e10, ← Int32.ofInt_add, L (by omega) (by omega)]
    exact c_clamp (by omega) (by omega) hp
  · rw [show cd (3, v) = -5 from rfl]
    refine ⟨fun z => absurd z (by decide), fun _ => ⟨fun _ v10 e10 => ?_, fun z => absurd rfl z⟩⟩
    rw [e10, ← Int32.ofInt_sub, L (by omega) (by omega)]
    exact c_clamp (by omega) (by omega) hp
  · rw [show cd (4, v) = -6 from rfl]
    refine ⟨fun z => absurd z (by decide), fun _ => ⟨fun z => absurd z (by decide), fun _ => ⟨fun _ v10 e10 => ?_, fun z => absurd rfl z⟩⟩⟩
    rw [e10, L (by omega) (by omega), L (by omega) (by omega), ← Int64.ofInt_mul]
    exact c_clamp (by omega) (by omega) hp
  · rw [show cd (5, v) = -7 from rfl]
    refine ⟨fun z => absurd z (by decide), fun _ => ⟨fun z => absurd z (by decide), fun _ => ⟨fun z => absurd z (by decide), fun _ => ?_⟩⟩⟩
    rw [if_pos rfl] at hp
    have ey : Int32.ofInt y = 0 ↔ y = 0 := by
      rw [← Int32.toInt_inj, ty]; rfl
    rw [ey]
    refine ⟨fun z => ?_, fun z => ⟨z, ?_⟩⟩
    · rw [if_pos z] at hp
      exact c_clamp (z := 0) (by omega) (by omega) (by rw [cl_id (by unfold vs_B; omega)]; exact hp)
    · rw [if_neg z] at hp
      have hd := tdiv_B (y := y) hx
      have hd' := hd
      unfold vs_B at hd'
      have ed : Int32.ofInt x / Int32.ofInt y = Int32.ofInt (x.tdiv y) := by
        rw [← Int32.toInt_inj, Int32.toInt_div_of_ne_left, tx, ty, cI_32 (by omega) (by omega)]
        intro q
        have : (Int32.ofInt x).toInt = Int32.minValue.toInt := by rw [q]
        rw [tx, show Int32.minValue.toInt = -2147483648 from rfl] at this
        omega
      rw [ed, L (by omega) (by omega)]
      exact c_clamp (by omega) (by omega) (by rw [cl_id hd]; exact hp)
end CR
