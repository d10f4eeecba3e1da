/-! ===== THE LAW: its loop ===== -/
def wp_sw (E : ms_En) (Ln : Nat) (xs : Nat → Int32) (o1 o2 o3 : Nat) (x4 : Int32) (k : ms_St → Prop) (u : ms_St) (v : Int32) : Prop := (v = nI 0 → wp_case_0 E Ln xs o1 o2 o3 x4 k u) ∧ (v = nI 1 → wp_case_1 E Ln xs o1 o2 o3 x4 k u) ∧ (v = nI 2 → wp_case_2 E Ln xs o1 o2 o3 x4 k u) ∧ (v = nI 3 → wp_case_3 E Ln xs o1 o2 o3 x4 k u) ∧ (v = nI 4 → wp_case_4 E Ln xs o1 o2 o3 x4 k u) ∧ (v = nI 5 → wp_case_5 E Ln xs o1 o2 o3 x4 k u) ∧ (v = nI 6 → wp_case_6 E Ln xs o1 o2 o3 x4 k u) ∧ (v = nI 7 → wp_case_7 E Ln xs o1 o2 o3 x4 k u) ∧ (v = nI 8 → wp_case_8 E Ln xs o1 o2 o3 x4 k u) ∧ (v = nI 9 → wp_case_9 E Ln xs o1 o2 o3 x4 k u) ∧ (v = nI 10 → wp_case_10 E Ln xs o1 o2 o3 x4 k u) ∧ (v = nI 11 → wp_case_11 E Ln xs o1 o2 o3 x4 k u) ∧ (v = nI 12 → wp_case_12 E Ln xs o1 o2 o3 x4 k u) ∧ (v = nI 13 → wp_case_13 E Ln xs o1 o2 o3 x4 k u) ∧ (v = nI 14 → wp_case_14 E Ln xs o1 o2 o3 x4 k u) ∧ (v = nI 15 → wp_case_15 E Ln xs o1 o2 o3 x4 k u) ∧ (v = nI 16 → wp_case_16 E Ln xs o1 o2 o3 x4 k u) ∧ (v = nI 17 → wp_case_17 E Ln xs o1 o2 o3 x4 k u) ∧ (v = nI 18 → wp_case_18 E Ln xs o1 o2 o3 x4 k u) ∧ (v = nI 19 → wp_case_19 E Ln xs o1 o2 o3 x4 k u) ∧ (v = nI 20 → wp_case_20 E Ln xs o1 o2 o3 x4 k u) ∧ (v = nI 21 → wp_case_21 E Ln xs o1 o2 o3 x4 k u) ∧ (v = nI 22 → wp_case_22 E Ln xs o1 o2 o3 x4 k u) ∧ (v = nI 23 → wp_case_23 E Ln xs o1 o2 o3 x4 k u) ∧ (v = nI 24 → wp_case_24 E Ln xs o1 o2 o3 x4 k u) ∧ (v = nI 25 → wp_case_25 E Ln xs o1 o2 o3 x4 k u) ∧ (v = nI 26 → wp_case_26 E Ln xs o1 o2 o3 x4 k u) ∧ (v = nI 27 → wp_case_27 E Ln xs o1 o2 o3 x4 k u) ∧ (v = nI 28 → wp_case_28 E Ln xs o1 o2 o3 x4 k u) ∧ (v = nI 29 → wp_case_29 E Ln xs o1 o2 o3 x4 k u) ∧ (v = nI 30 → wp_case_30 E Ln xs o1 o2 o3 x4 k u) ∧ (v = nI 31 → wp_case_31 E Ln xs o1 o2 o3 x4 k u) ∧ (v = nI 32 → wp_case_32 E Ln xs o1 o2 o3 x4 k u) ∧ (v = nI 33 → wp_case_33 E Ln xs o1 o2 o3 x4 k u) ∧ ((33 : Int) < v.toInt → k u)
def wp_law (E : ms_En) (Ln : Nat) (xs : Nat → Int32) (o1 o2 o3 : Nat) : Nat → ms_St → Int32 → Prop
  | 0 => fun _ _ => False
  | n + 1 => fun u x4 => ¬ (nI Ln - 6) < x4 → vp_in x4 Ln ∧ wp_sw E Ln xs o1 o2 o3 x4 (fun u' => wp_law E Ln xs o1 o2 o3 n u' (x4 + 6)) u (xs (Int32.toNatClampNeg x4) &&& 63)
theorem ms_63 (x : Int32) : ∃ j : Nat, j < 64 ∧ x &&& 63 = nI j := pk_andE x (m := 63) 6 (by decide)
set_option maxHeartbeats 4000000 in
set_option maxRecDepth 100000 in
theorem c_sw {p : Program} {l : Launch} {e : Env} {s : State} {m : MethodId} {args : Array Value} {below : List Frame} {meth : Method} {c : Code} {G : va_G} {cy : Nat → ClassId} {A : Nat → Prop} {L : Nat → Nat} {E : ms_En} {Q : State → Prop} (C : ms_Cx p m c cL_law 7 s args (Cond.initialized "CensusWalkLaw") "CensusWalkLaw" G cy A) (hl9 : l.stackTraces = false) (hE : ms_WT E) {b Ln : Nat} {xs : Nat → Int32} (hX : va_X b Ln xs s s.heap) (hbl : b < s.heap.size) (hbA : ¬ A b) {o1 o2 o3 : Nat} (h1 : ms_is E o1 10) (h2 : ms_is E o2 11) (h3 : ms_is E o3 14) (n3 : ms_N E o3 = 1) {k : ms_St → Prop} {x4 : Int32} {n : Nat} (hn9 : n ≤ 1000) (hk : ∀ u : ms_St, k u → ms_At p l e room_1 s m args below meth c 7 G cy A L (601024 - 4 * n) (7293034 - 24 * n) Q E u 1943 [(0, .ref b), (1, .ref (L o1)), (2, .ref (L o2)), (3, .ref (L o3)), (4, .int x4)] []) (u : ms_St) (v : Int32) (hv : ∃ j : Nat, j < 64 ∧ v = nI j) (h : wp_sw E Ln xs o1 o2 o3 x4 k u v) : ms_At p l e room_1 s m args below meth c 7 G cy A L (601024 - 4 * (n + 1)) (7293034 - 24 * (n + 1)) Q E u 40 [(0, .ref b), (1, .ref (L o1)), (2, .ref (L o2)), (3, .ref (L o3)), (4, .int x4)] [.int v] := by
  unfold wp_sw at h
  obtain ⟨j, hj, rfl⟩ := hv
  by_cases h33 : 33 < j
  · have hi : (33 : Int) < (nI j).toInt := by rw [nI_toInt (by omega)]; omega
    refine a_tabOut (tgt := 1943) C dL_law_40 (Or.inr hi) (by decide) ?_
    refine a_wid (k := 601024 - 4 * n) (n := 7293034 - 24 * n) (by omega) (by omega) ?_
    exact hk u (h.2.2.2.2.2.2.2.2.2.2.2.2.2.2.2.2.2.2.2.2.2.2.2.2.2.2.2.2.2.2.2.2.2.2 hi)
  · rcases (show j = 0 ∨ j = 1 ∨ j = 2 ∨ j = 3 ∨ j = 4 ∨ j = 5 ∨ j = 6 ∨ j = 7 ∨ j = 8 ∨ j = 9 ∨ j = 10 ∨ j = 11 ∨ j = 12 ∨ j = 13 ∨ j = 14 ∨ j = 15 ∨ j = 16 ∨ j = 17 ∨ j = 18 ∨ j = 19 ∨ j = 20 ∨ j = 21 ∨ j = 22 ∨ j = 23 ∨ j = 24 ∨ j = 25 ∨ j = 26 ∨ j = 27 ∨ j = 28 ∨ j = 29 ∨ j = 30 ∨ j = 31 ∨ j = 32 ∨ j = 33 by omega) with rfl | rfl | rfl | rfl | rfl | rfl | rfl | rfl | rfl | rfl | rfl | rfl | rfl | rfl | rfl | rfl | rfl | rfl | rfl | rfl | rfl | rfl | rfl | rfl | rfl | rfl | rfl | rfl | rfl | rfl | rfl | rfl | rfl | rfl
    · refine a_tabIn (off := 152) (tgt := 192) C dL_law_40 (by decide) (by decide) (by decide) (by decide) ?_
      exact c_case_0 C hl9 hE hX hbl hbA h1 h2 h3 n3 hn9 hk u (h.1 rfl)
    · refine a_tabIn (off := 225) (tgt := 265) C dL_law_40 (by decide) (by decide) (by decide) (by decide) ?_
      exact c_case_1 C hl9 hE hX hbl hbA h1 h2 h3 n3 hn9 hk u (h.2.1 rfl)
    · refine a_tabIn (off := 281) (tgt := 321) C dL_law_40 (by decide) (by decide) (by decide) (by decide) ?_
      exact c_case_2 C hl9 hE hX hbl hbA h1 h2 h3 n3 hn9 hk u (h.2.2.1 rfl)
    · refine a_tabIn (off := 294) (tgt := 334) C dL_law_40 (by decide) (by decide) (by decide) (by decide) ?_
      exact c_case_3 C hl9 hE hX hbl hbA h1 h2 h3 n3 hn9 hk u (h.2.2.2.1 rfl)
    · refine a_tabIn (off := 307) (tgt := 347) C dL_law_40 (by decide) (by decide) (by decide) (by decide) ?_
      exact c_case_4 C hl9 hE hX hbl hbA h1 h2 h3 n3 hn9 hk u (h.2.2.2.2.1 rfl)
    · refine a_tabIn (off := 320) (tgt := 360) C dL_law_40 (by decide) (by decide) (by decide) (by decide) ?_
      exact c_case_5 C hl9 hE hX hbl hbA h1 h2 h3 n3 hn9 hk u (h.2.2.2.2.2.1 rfl)
    · refine a_tabIn (off := 333) (tgt := 373) C dL_law_40 (by decide) (by decide) (by decide) (by decide) ?_
      exact c_case_6 C hl9 hE hX hbl hbA h1 h2 h3 n3 hn9 hk u (h.2.2.2.2.2.2.1 rfl)
    · refine a_tabIn (off := 346) (tgt := 386) C dL_law_40 (by decide) (by decide) (by decide) (by decide) ?_
      exact c_case_7 C hl9 hE hX hbl hbA h1 h2 h3 n3 hn9 hk u (h.2.2.2.2.2.2.2.1 rfl)
    · refine a_tabIn (off := 414) (tgt := 454) C dL_law_40 (by decide) (by decide) (by decide) (by decide) ?_
      exact c_case_8 C hl9 hE hX hbl hbA h1 h2 h3 n3 hn9 hk u (h.2.2.2.2.2.2.2.2.1 rfl)
    · refine a_tabIn (off := 482) (tgt := 522) C dL_law_40 (by decide) (by decide) (by decide) (by decide) ?_
      exact c_case_9 C hl9 hE hX hbl hbA h1 h2 h3 n3 hn9 hk u (h.2.2.2.2.2.2.2.2.2.1 rfl)
    · refine a_tabIn (off := 538) (tgt := 578) C dL_law_40 (by decide) (by decide) (by decide) (by decide) ?_
      exact c_case_10 C hl9 hE hX hbl hbA h1 h2 h3 n3 hn9 hk u (h.2.2.2.2.2.2.2.2.2.2.1 rfl)
    · refine a_tabIn (off := 601) (tgt := 641) C dL_law_40 (by decide) (by decide) (by decide) (by decide) ?_
      exact c_case_11 C hl9 hE hX hbl hbA h1 h2 h3 n3 hn9 hk u (h.2.2.2.2.2.2.2.2.2.2.2.1 rfl)
    · refine a_tabIn (off := 664) (tgt := 704) C dL_law_40 (by decide) (by decide) (by decide) (by decide) ?_
      exact c_case_12 C hl9 hE hX hbl hbA h1 h2 h3 n3 hn9 hk u (h.2.2.2.2.2.2.2.2.2.2.2.2.1 rfl)
    · refine a_tabIn (off := 739) (tgt := 779) C dL_law_40 (by decide) (by decide) (by decide) (by decide) ?_
      exact c_case_13 C hl9 hE hX hbl hbA h1 h2 h3 n3 hn9 hk u (h.2.2.2.2.2.2.2.2.2.2.2.2.2.1 rfl)
    · refine a_tabIn (off := 807) (tgt := 847) C dL_law_40 (by decide) (by decide) (by decide) (by decide) ?_
      exact c_case_14 C hl9 hE hX hbl hbA h1 h2 h3 n3 hn9 hk u (h.2.2.2.2.2.2.2.2.2.2.2.2.2.2.1 rfl)
    · refine a_tabIn (off := 863) (tgt := 903) C dL_law_40 (by decide) (by decide) (by decide) (by decide) ?_
      exact c_case_15 C hl9 hE hX hbl hbA h1 h2 h3 n3 hn9 hk u (h.2.2.2.2.2.2.2.2.2.2.2.2.2.2.2.1 rfl)
    · refine a_tabIn (off := 931) (tgt := 971) C dL_law_40 (by decide) (by decide) (by decide) (by decide) ?_
      exact c_case_16 C hl9 hE hX hbl hbA h1 h2 h3 n3 hn9 hk u (h.2.2.2.2.2.2.2.2.2.2.2.2.2.2.2.2.1 rfl)
    · refine a_tabIn (off := 999) (tgt := 1039) C dL_law_40 (by decide) (by decide) (by decide) (by decide) ?_
      exact c_case_17 C hl9 hE hX hbl hbA h1 h2 h3 n3 hn9 hk u (h.2.2.2.2.2.2.2.2.2.2.2.2.2.2.2.2.2.1 rfl)
    · refine a_tabIn (off := 1067) (tgt := 1107) C dL_law_40 (by decide) (by decide) (by decide) (by decide) ?_
      exact c_case_18 C hl9 hE hX hbl hbA h1 h2 h3 n3 hn9 hk u (h.2.2.2.2.2.2.2.2.2.2.2.2.2.2.2.2.2.2.1 rfl)
    · refine a_tabIn (off := 1123) (tgt := 1163) C dL_law_40 (by decide) (by decide) (by decide) (by decide) ?_
      exact c_case_19 C hl9 hE hX hbl hbA h1 h2 h3 n3 hn9 hk u (h.2.2.2.2.2.2.2.2.2.2.2.2.2.2.2.2.2.2.2.1 rfl)
    · refine a_tabIn (off := 1136) (tgt := 1176) C dL_law_40 (by decide) (by decide) (by decide) (by decide) ?_
      exact c_case_20 C hl9 hE hX hbl hbA h1 h2 h3 n3 hn9 hk u (h.2.2.2.2.2.2.2.2.2.2.2.2.2.2.2.2.2.2.2.2.1 rfl)
    · refine a_tabIn (off := 1149) (tgt := 1189) C dL_law_40 (by decide) (by decide) (by decide) (by decide) ?_
      exact c_case_21 C hl9 hE hX hbl hbA h1 h2 h3 n3 hn9 hk u (h.2.2.2.2.2.2.2.2.2.2.2.2.2.2.2.2.2.2.2.2.2.1 rfl)
    · refine a_tabIn (off := 1162) (tgt := 1202) C dL_law_40 (by decide) (by decide) (by decide) (by decide) ?_
      exact c_case_22 C hl9 hE hX hbl hbA h1 h2 h3 n3 hn9 hk u (h.2.2.2.2.2.2.2.2.2.2.2.2.2.2.2.2.2.2.2.2.2.2.1 rfl)
    · refine a_tabIn (off := 1218) (tgt := 1258) C dL_law_40 (by decide) (by decide) (by decide) (by decide) ?_
      exact c_case_23 C hl9 hE hX hbl hbA h1 h2 h3 n3 hn9 hk u (h.2.2.2.2.2.2.2.2.2.2.2.2.2.2.2.2.2.2.2.2.2.2.2.1 rfl)
    · refine a_tabIn (off := 1286) (tgt := 1326) C dL_law_40 (by decide) (by decide) (by decide) (by decide) ?_
      exact c_case_24 C hl9 hE hX hbl hbA h1 h2 h3 n3 hn9 hk u (h.2.2.2.2.2.2.2.2.2.2.2.2.2.2.2.2.2.2.2.2.2.2.2.2.1 rfl)
    · refine a_tabIn (off := 1366) (tgt := 1406) C dL_law_40 (by decide) (by decide) (by decide) (by decide) ?_
      exact c_case_25 C hl9 hE hX hbl hbA h1 h2 h3 n3 hn9 hk u (h.2.2.2.2.2.2.2.2.2.2.2.2.2.2.2.2.2.2.2.2.2.2.2.2.2.1 rfl)
    · refine a_tabIn (off := 1422) (tgt := 1462) C dL_law_40 (by decide) (by decide) (by decide) (by decide) ?_
      exact c_case_26 C hl9 hE hX hbl hbA h1 h2 h3 n3 hn9 hk u (h.2.2.2.2.2.2.2.2.2.2.2.2.2.2.2.2.2.2.2.2.2.2.2.2.2.2.1 rfl)
    · refine a_tabIn (off := 1490) (tgt := 1530) C dL_law_40 (by decide) (by decide) (by decide) (by decide) ?_
      exact c_case_27 C hl9 hE hX hbl hbA h1 h2 h3 n3 hn9 hk u (h.2.2.2.2.2.2.2.2.2.2.2.2.2.2.2.2.2.2.2.2.2.2.2.2.2.2.2.1 rfl)
    · refine a_tabIn (off := 1558) (tgt := 1598) C dL_law_40 (by decide) (by decide) (by decide) (by decide) ?_
      exact c_case_28 C hl9 hE hX hbl hbA h1 h2 h3 n3 hn9 hk u (h.2.2.2.2.2.2.2.2.2.2.2.2.2.2.2.2.2.2.2.2.2.2.2.2.2.2.2.2.1 rfl)
    · refine a_tabIn (off := 1614) (tgt := 1654) C dL_law_40 (by decide) (by decide) (by decide) (by decide) ?_
      exact c_case_29 C hl9 hE hX hbl hbA h1 h2 h3 n3 hn9 hk u (h.2.2.2.2.2.2.2.2.2.2.2.2.2.2.2.2.2.2.2.2.2.2.2.2.2.2.2.2.2.1 rfl)
    · refine a_tabIn (off := 1694) (tgt := 1734) C dL_law_40 (by decide) (by decide) (by decide) (by decide) ?_
      exact c_case_30 C hl9 hE hX hbl hbA h1 h2 h3 n3 hn9 hk u (h.2.2.2.2.2.2.2.2.2.2.2.2.2.2.2.2.2.2.2.2.2.2.2.2.2.2.2.2.2.2.1 rfl)
    · refine a_tabIn (off := 1785) (tgt := 1825) C dL_law_40 (by decide) (by decide) (by decide) (by decide) ?_
      exact c_case_31 C hl9 hE hX hbl hbA h1 h2 h3 n3 hn9 hk u (h.2.2.2.2.2.2.2.2.2.2.2.2.2.2.2.2.2.2.2.2.2.2.2.2.2.2.2.2.2.2.2.1 rfl)
    · refine a_tabIn (off := 1876) (tgt := 1916) C dL_law_40 (by decide) (by decide) (by decide) (by decide) ?_
      exact c_case_32 C hl9 hE hX hbl hbA h1 h2 h3 n3 hn9 hk u (h.2.2.2.2.2.2.2.2.2.2.2.2.2.2.2.2.2.2.2.2.2.2.2.2.2.2.2.2.2.2.2.2.1 rfl)
    · refine a_tabIn (off := 1889) (tgt := 1929) C dL_law_40 (by decide) (by decide) (by decide) (by decide) ?_
      exact c_case_33 C hl9 hE hX hbl hbA h1 h2 h3 n3 hn9 hk u (h.2.2.2.2.2.2.2.2.2.2.2.2.2.2.2.2.2.2.2.2.2.2.2.2.2.2.2.2.2.2.2.2.2.1 rfl)
set_option maxHeartbeats 4000000 in
set_option maxRecDepth 100000 in
theorem law_loop {p : Program} {l : Launch} {e : Env} {s : State} {m : MethodId} {below : List Frame} {meth : Method} {c : Code} {G : va_G} {cy : Nat → ClassId} {L : Nat → Nat} {E : ms_En} {b Ln : Nat} {xs : Nat → Int32} (hr : meth.sig.returnType = ret) (hlocks : meth.locks = false) (C : ms_Cx p m c cL_law 7 s #[Value.ref b] (Cond.initialized "CensusWalkLaw") "CensusWalkLaw" G cy (fun q => s.heap.size ≤ q)) (hl9 : l.stackTraces = false) (hE : ms_WT E) (hX : va_X b Ln xs s s.heap) (hbl : b < s.heap.size) {o1 o2 o3 : Nat} (h1 : ms_is E o1 10) (h2 : ms_is E o2 11) (h3 : ms_is E o3 14) (n3 : ms_N E o3 = 1) :
    ∀ (n : Nat) (u : ms_St) (x4 : Int32), n ≤ 1000 → wp_law E Ln xs o1 o2 o3 n u x4 → ms_At p l e room_1 s m #[Value.ref b] below meth c 7 G cy (fun q => s.heap.size ≤ q) L (601024 - 4 * n) (7293034 - 24 * n) (lw_Z below #[Value.ref b] s) E u 23 [(0, .ref b), (1, .ref (L o1)), (2, .ref (L o2)), (3, .ref (L o3)), (4, .int x4)] [] := by
  have hbA : ¬ (fun q : Nat => s.heap.size ≤ q) b := Nat.not_le.mpr hbl
  intro n
  induction n with
  | zero =>
    intro u x4 _ h
    exact absurd h id
  | succ n ih =>
    intro u x4 hn9 h
    unfold wp_law at h
    refine a_iload C dL_law_23 4 rfl rfl ?_
    refine a_aload_n C dL_law_25 rfl 0 rfl rfl ?_
    refine a_slen C hX hbl hbA dL_law_26 rfl ?_
    refine a_bipush (v := 6) C dL_law_27 (by decide) rfl ?_
    refine a_isub C dL_law_29 rfl ?_
    refine a_icmp_gt (tgt := 1949) C dL_law_30 (by decide) rfl (fun hc => ?_) (fun hc => ?_)
    · refine a_iconst (v := 1) C dL_law_1949 (by decide) rfl ?_
      intro H locs ls hw hS hl
      refine va_forget (fun q hq => hS.2.2 q hq) ?_
      refine W.widen (k := 601024) (n := 7293034) (by omega) (by omega) ?_
      exact lw_ret C.1.1 C.1.2.1 hr hlocks dL_law_1950
    · replace h := h hc
      refine a_aload_n C dL_law_33 rfl 0 rfl rfl ?_
      refine a_iload C dL_law_34 4 rfl rfl ?_
      obtain ⟨q36, h⟩ := h
      refine a_sld C hX hbl hbA dL_law_36 q36 rfl ?_
      refine a_bipush (v := 63) C dL_law_37 (by decide) rfl ?_
      refine a_iand C dL_law_39 rfl ?_
      refine c_sw C hl9 hE hX hbl hbA h1 h2 h3 n3 (n := n) (by omega) (fun u' h => ?_) u _ (ms_63 _) h
      refine a_iinc (lv' := [(0, .ref b), (1, .ref (L o1)), (2, .ref (L o2)), (3, .ref (L o3)), (4, .int (x4 + 6))]) (v := (x4 + 6)) C dL_law_1943 4 rfl (congrArg (fun z => x4 + z) (by decide)) (by decide) [1, 2, 3, 4, 0] rfl rfl ?_
      refine a_goto (tgt := 23) C dL_law_1946 (by decide) ?_
      exact ih u' (x4 + 6) (by omega) h
