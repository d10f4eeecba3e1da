/-! ===== THE MADE WORLD, and the law from its entry ===== -/
def ms_l0 : List ms_Ce := ([] ++ cs_X10 0) ++ cs_X11 233 ++ [(14, 1, fun _ => none)]
def ms_E0 : ms_En := ms_of ms_l0
def ms_z0 : ms_St := (fun _ _ => 0, fun _ _ => 0)
def ms_u0 : ms_St := fu_X11 (fu_X10 ms_z0 0) 233
def ms_ck1 (l : List ms_Ce) (o k : Nat) : Bool := match l[o]? with
  | none => true
  | some c => if (ms_fK c.1 k).1 < 99 then (match c.2.2 k with
    | none => false
    | some b => (match l[b]? with
      | none => false
      | some d => d.1 == (ms_fK c.1 k).1 && (decide ((ms_fK c.1 k).1 < 12) || d.2.1 == (ms_fK c.1 k).2))) else true
def ms_ck2 (l : List ms_Ce) (o i kd ln : Nat) : Bool := match l[o]? with
  | none => true
  | some c => (match c.2.2 i with
    | none => false
    | some b => (match l[b]? with
      | none => false
      | some d => d.1 == kd && (decide (kd < 12) || d.2.1 == ln)))
def ms_ck3 (l : List ms_Ce) (o : Nat) : Bool := match l[o]? with
  | none => true
  | some c => if c.1 = 16 then (List.range c.2.1).all (fun i => ms_ck2 l o i 7 0) else if 17 ≤ c.1 ∧ c.1 ≤ 20 then (List.range c.2.1).all (fun i => ms_ck2 l o i 13 (ms_rl c.1)) else true
theorem ms_fK_big {c k : Nat} (h : 34 ≤ k) : ¬ (ms_fK c k).1 < 99 := by
  unfold ms_fK
  split <;> first | omega | decide
theorem ms_of_get {l : List ms_Ce} {o c : Nat} (h : ms_is (ms_of l) o c) : ∃ x : ms_Ce, l[o]? = some x ∧ x.1 = c ∧ ms_N (ms_of l) o = x.2.1 ∧ ms_R (ms_of l) o = x.2.2 := by
  have hlt : o < l.length := h.1
  have e : l[o]? = some l[o] := List.getElem?_eq_getElem hlt
  refine ⟨l[o], e, ?_, ?_, ?_⟩
  · have := h.2
    unfold ms_K ms_of at this
    simp only [e, Option.map_some, Option.getD_some] at this
    exact this
  · unfold ms_N ms_of
    simp only [e, Option.map_some, Option.getD_some]
  · unfold ms_R ms_of
    funext k
    simp only [e, Option.bind_some]
theorem ms_of_is {l : List ms_Ce} {o : Nat} {x : ms_Ce} (h : l[o]? = some x) : ms_is (ms_of l) o x.1 ∧ ms_N (ms_of l) o = x.2.1 := by
  refine ⟨⟨(List.getElem?_eq_some_iff.mp h).1, ?_⟩, ?_⟩
  · unfold ms_K ms_of
    simp only [h, Option.map_some, Option.getD_some]
  · unfold ms_N ms_of
    simp only [h, Option.map_some, Option.getD_some]
theorem ms_ck2_use {l : List ms_Ce} {o i kd ln : Nat} {x : ms_Ce} (hx : l[o]? = some x) (h : ms_ck2 l o i kd ln = true) (hR : ms_R (ms_of l) o = x.2.2) : ms_R (ms_of l) o i = some (ms_at (ms_of l) o i) ∧ ms_is (ms_of l) (ms_at (ms_of l) o i) kd ∧ (12 ≤ kd → ms_N (ms_of l) (ms_at (ms_of l) o i) = ln) := by
  unfold ms_ck2 at h
  rw [hx] at h
  simp only at h
  cases hb : x.2.2 i with
  | none => rw [hb] at h; cases h
  | some b =>
    rw [hb] at h
    simp only at h
    cases hd : l[b]? with
    | none => rw [hd] at h; cases h
    | some d =>
      rw [hd] at h
      simp only [Bool.and_eq_true, Bool.or_eq_true, beq_iff_eq, decide_eq_true_eq] at h
      have hat : ms_at (ms_of l) o i = b := by unfold ms_at; rw [hR, hb]; rfl
      rw [hat]
      obtain ⟨g1, g2⟩ := ms_of_is hd
      refine ⟨by rw [hR, hb], by rw [← h.1]; exact g1, fun h12 => ?_⟩
      rw [g2]
      rcases h.2 with q | q
      · omega
      · exact q
theorem ms_WT_of (l : List ms_Ce) (h1 : (List.range l.length).all (fun o => (List.range 34).all (fun k => ms_ck1 l o k)) = true) (h2 : (List.range l.length).all (fun o => ms_ck3 l o) = true) : ms_WT (ms_of l) := by
  refine ⟨fun o c k ho hk => ?_, fun o i ho hi => ?_, fun o i kd ho h17 h20 hi => ?_⟩
  · obtain ⟨x, hx, rfl, -, hR⟩ := ms_of_get ho
    have hk34 : k < 34 := Nat.lt_of_not_le fun h => ms_fK_big h hk
    have hc := List.all_eq_true.mp (List.all_eq_true.mp h1 o (List.mem_range.mpr ho.1)) k (List.mem_range.mpr hk34)
    refine ms_ck2_use hx ?_ hR
    unfold ms_ck1 at hc
    unfold ms_ck2
    rw [hx] at hc ⊢
    simp only [if_pos hk] at hc ⊢
    exact hc
  · obtain ⟨x, hx, hx16, hN, hR⟩ := ms_of_get ho
    have hc := List.all_eq_true.mp h2 o (List.mem_range.mpr ho.1)
    unfold ms_ck3 at hc
    rw [hx] at hc
    simp only [if_pos hx16] at hc
    have := ms_ck2_use hx (List.all_eq_true.mp hc i (List.mem_range.mpr (by rw [← hN]; exact hi))) hR
    exact ⟨this.1, this.2.1⟩
  · obtain ⟨x, hx, rfl, hN, hR⟩ := ms_of_get ho
    have hc := List.all_eq_true.mp h2 o (List.mem_range.mpr ho.1)
    unfold ms_ck3 at hc
    rw [hx] at hc
    simp only [if_neg (show ¬ x.1 = 16 by omega), if_pos (show 17 ≤ x.1 ∧ x.1 ≤ 20 from ⟨h17, h20⟩)] at hc
    have := ms_ck2_use hx (List.all_eq_true.mp hc i (List.mem_range.mpr (by rw [← hN]; exact hi))) hR
    exact ⟨this.1, this.2.1, this.2.2 (by decide)⟩
theorem ms_E0_WT : ms_WT ms_E0 := ms_WT_of ms_l0 (by decide +kernel) (by decide +kernel)
theorem ms_E0_1 : ms_is ms_E0 0 10 := ⟨by decide +kernel, by decide +kernel⟩
theorem ms_E0_2 : ms_is ms_E0 233 11 := ⟨by decide +kernel, by decide +kernel⟩
theorem ms_E0_3 : ms_is ms_E0 529 14 := ⟨by decide +kernel, by decide +kernel⟩
theorem ms_E0_n : ms_N ms_E0 529 = 1 := by decide +kernel
theorem ms_z0_zz : ms_zz 0 ms_z0 := fun _ _ => ⟨rfl, rfl⟩
theorem ms_len10 : ([] ++ cs_X10 0).length = 233 := by decide +kernel
theorem ms_len11 : (([] ++ cs_X10 0) ++ cs_X11 233).length = 529 := by decide +kernel
set_option maxHeartbeats 4000000 in
set_option maxRecDepth 100000 in
theorem whole_start_open (hp : ∀ (Ln : Nat) (xs : Nat → Int32), Ln ≤ 3072 → ∃ n, n ≤ 1000 ∧ wp_law ms_E0 Ln xs 0 233 529 n ms_u0 0) {p : Program} {e : Env} {s : State} {m : MethodId} {below : List Frame} {meth : Method} {c : Code} (l : Launch) (hflags : l.flags = flags0) {b Ln : Nat} {xs : Nat → Int32} (hL : Ln ≤ 3072) (C0 : lw_At p s m meth c b Ln xs) : W p l e room_1 s m #[Value.ref b] below meth c s.heap [] 0 0 (lw_Z below #[Value.ref b] s) (entryFrame m ([Value.ref b] : List Value).toArray 7) := by
  obtain ⟨hx, hb, hr, hml, hown, hts, hX, hbl, hlocks, hgv⟩ := C0
  have hl9 : l.stackTraces = false := by unfold Launch.stackTraces; rw [hflags]; decide +kernel
  obtain ⟨G, cy, hK, hF⟩ := ms_start (A := fun q => s.heap.size ≤ q) (fun a h => Nat.not_le.mpr h) hts hgv
  have C : ms_Cx p m c cL_law 7 s #[Value.ref b] (Cond.initialized "CensusWalkLaw") "CensusWalkLaw" G cy (fun q => s.heap.size ≤ q) := ⟨⟨hx, hb, hml, hown, fun w h => (List.mem_cons.mp h).elim (fun e => by rw [e]; exact hts _ (List.mem_filter.mp kw_1_0).1) (fun h => hts w (List.mem_filter.mp h).1)⟩, hK, fun _ h => h, hF⟩
  obtain ⟨n, hn, hw⟩ := hp Ln xs hL
  have hl := lv_entry ([.ref b]) (n := 7) (Nat.le_of_ble_eq_true rfl)
  rw [lg_entry_eq]
  have key : ms_At p l e room_1 s m #[Value.ref b] below meth c 7 G cy (fun q => s.heap.size ≤ q) (fun _ => 0) 0 0 (lw_Z below #[Value.ref b] s) (ms_of []) ms_z0 0 [(0, .ref b)] [] := by
    have hz := ms_z0_zz
    refine b_newC (ci := 10) (n0 := 0) (l1 := [] ++ [(10, 0, fun _ => none)]) (lvf := fun _ => [(0, .ref b)]) (stf := fun _ => []) C rfl rfl in10 rfl (by decide) tyX10 tyX10_ok rfl df_10 kw_1_27 kw_1_28 kw_1_1 hz (Nat.le_of_ble_eq_true rfl) (Nat.le_of_ble_eq_true rfl) dL_law_0 (fun _ _ => rfl) (fun _ _ => rfl) rfl (fun L1 g1 => ?_)
    refine a_dup C dL_law_3 rfl rfl ?_
    refine a_callC (lvf := fun _ => [(0, .ref b)]) (stf := fun L => [.ref (L 0)]) C (ci_X10 l G cy L1 [] 0 rfl (by decide) ms_z0 (ms_zz_le hz (Nat.le_succ _))) kw_1_29 kw_1_30 kw_1_1 kw_1_31 rfl rfl rfl pd_X10_init ⟨(Nat.le_of_ble_eq_true rfl), (Nat.le_of_ble_eq_true rfl)⟩ dL_law_4 (z9 := 1) rfl (fun _ _ => rfl) (fun L' g => by rw [g 0 (by omega)]) (Nat.le_of_ble_eq_true rfl) ⟨(Nat.le_of_ble_eq_true rfl), (Nat.le_of_ble_eq_true rfl)⟩ rfl (fun L2 g2 => ?_)
    have hz : ms_zz 233 (fu_X10 ms_z0 0) := fz_X10 (n := 0) (ms_zz_le hz (Nat.le_succ _))
    refine a_astore_n (lv' := [(0, .ref b), (1, .ref (L2 0))]) C dL_law_7 rfl (by decide) [1, 0] rfl rfl ?_
    refine b_newC (ci := 11) (n0 := 233) (l0 := [] ++ cs_X10 0) (l1 := ([] ++ cs_X10 0) ++ [(11, 0, fun _ => none)]) (lvf := fun L => [(0, .ref b), (1, .ref (L 0))]) (stf := fun _ => []) C ms_len10 rfl in11 rfl (by decide) tyX11 tyX11_ok rfl df_11 kw_5_214 kw_5_215 kw_1_12 hz (Nat.le_of_ble_eq_true rfl) (Nat.le_of_ble_eq_true rfl) dL_law_8 (fun L' g => by rw [g 0 (by omega)]) (fun _ _ => rfl) rfl (fun L3 g3 => ?_)
    refine a_dup C dL_law_11 rfl rfl ?_
    refine a_callC (lvf := fun L => [(0, .ref b), (1, .ref (L 0))]) (stf := fun L => [.ref (L 233)]) C (ci_X11 l G cy L3 ([] ++ cs_X10 0) 233 ms_len10 (fu_X10 ms_z0 0) (ms_zz_le hz (Nat.le_succ _))) kw_5_216 kw_5_217 kw_1_12 kw_5_218 rfl rfl rfl pd_X11_init ⟨(Nat.le_of_ble_eq_true rfl), (Nat.le_of_ble_eq_true rfl)⟩ dL_law_12 (z9 := 234) (by rw [ms_of_Z, List.length_append, ms_len10]; rfl) (fun L' g => by rw [g 0 (by omega)]) (fun L' g => by rw [g 233 (by omega)]) (Nat.le_of_ble_eq_true rfl) ⟨(Nat.le_of_ble_eq_true rfl), (Nat.le_of_ble_eq_true rfl)⟩ rfl (fun L4 g4 => ?_)
    have hz : ms_zz 529 (fu_X11 (fu_X10 ms_z0 0) 233) := fz_X11 (n := 233) (ms_zz_le hz (Nat.le_succ _))
    refine a_astore_n (lv' := [(0, .ref b), (1, .ref (L4 0)), (2, .ref (L4 233))]) C dL_law_15 rfl (by decide) [1, 2, 0] rfl rfl ?_
    refine a_iconst (v := 1) C dL_law_16 (by decide) rfl ?_
    refine b_newJ (N' := 1) (n0 := 529) (l0 := ([] ++ cs_X10 0) ++ cs_X11 233) (l1 := ms_l0) (lvf := fun L => [(0, .ref b), (1, .ref (L 0)), (2, .ref (L 233))]) (stf := fun _ => []) C ms_len11 rfl kw_6_85 hz (by decide) (by decide) (Nat.le_of_ble_eq_true rfl) (Nat.le_of_ble_eq_true rfl) (Nat.le_of_ble_eq_true rfl) dL_law_17 (fun L' g => by rw [g 0 (by omega), g 233 (by omega)]) (fun _ _ => rfl) rfl (fun L5 g5 => ?_)
    refine a_astore_n (lv' := [(0, .ref b), (1, .ref (L5 0)), (2, .ref (L5 233)), (3, .ref (L5 529))]) C dL_law_19 rfl (by decide) [1, 2, 3, 0] rfl rfl ?_
    refine a_iconst (v := 0) C dL_law_20 (by decide) rfl ?_
    refine a_istore (lv' := [(0, .ref b), (1, .ref (L5 0)), (2, .ref (L5 233)), (3, .ref (L5 529)), (4, .int 0)]) C dL_law_21 (by decide) [1, 2, 3, 4, 0] rfl rfl ?_
    refine a_wid (k := 601024 - 4 * n) (n := 7293034 - 24 * n) ?_ ?_ ?_
    · show (_ : Nat) ≤ _
      have : 601024 - 4 * 1000 ≤ 601024 - 4 * n := by omega
      exact Nat.le_trans (Nat.le_of_ble_eq_true rfl) this
    · show (_ : Nat) ≤ _
      have : 7293034 - 24 * 1000 ≤ 7293034 - 24 * n := by omega
      exact Nat.le_trans (Nat.le_of_ble_eq_true rfl) this
    exact law_loop hr hlocks C hl9 ms_E0_WT hX hbl ms_E0_1 ms_E0_2 ms_E0_3 ms_E0_n n ms_u0 0 hn hw
  exact key s.heap [] _ ⟨fun k q h => by simp [ms_ws, ms_of_Z] at h, ⟨fun i j p q h => by simp [ms_ws, ms_of_Z] at h, fun k q h => by simp [ms_ws, ms_of_Z] at h⟩, ⟨fun i k b hi => by simp [ms_of_Z] at hi, fun i hi => by have := hi.1; simp [ms_of_Z] at this⟩⟩ va_S.rf hl
