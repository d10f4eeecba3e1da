/-! ===== MAKING, with names for lengths and lists ===== -/
def ms_zz (n : Nat) (u : ms_St) : Prop := ∀ i, n ≤ i → ms_I u i = (fun _ => 0) ∧ ms_J u i = (fun _ => 0)
theorem ms_zz_sI {n o k : Nat} {v : Int32} {u : ms_St} (h : ms_zz n u) (ho : o < n) : ms_zz n (ms_sI u o k v) := fun i hi => ⟨(ms_u2_ne (by omega)).trans (h i hi).1, (h i hi).2⟩
theorem ms_zz_le {n m : Nat} {u : ms_St} (h : ms_zz n u) (hm : n ≤ m) : ms_zz m u := fun i hi => h i (Nat.le_trans hm hi)
/-- the list with a grid more -/
theorem ms_ws_grid {cy : Nat → ClassId} {L L' : Nat → Nat} {l0 : List ms_Ce} {u : ms_St} {kd N K : Nat} (hkd : 17 ≤ kd) (hL : ∀ i, i < l0.length → L' i = L i) (hcl : ms_Cl (ms_of l0) u) (hz : ms_zz l0.length u) : ms_ws cy L' (ms_of (l0 ++ (kd, N, fun i => if i < N then some (l0.length + 1 + i) else none) :: List.replicate N (13, K, fun _ => none))) u = (ms_ws cy L (ms_of l0) u ++ [(L' l0.length, .inl (cy 17, N, .inr (.inr (.inr (.inr (fun i => if i < N then some (L' (l0.length + 1 + i)) else none))))))]) ++ (List.range N).map (fun i => (L' (l0.length + 1 + i), .inl (cy 13, K, .inl (fun _ => 0)))) := by
  generalize hE : ms_of (l0 ++ (kd, N, fun i => if i < N then some (l0.length + 1 + i) else none) :: List.replicate N (13, K, fun _ => none)) = E
  have hZ : ms_Z E = l0.length + 1 + N := by rw [← hE, ms_of_Z]; simp; omega
  have hold : ∀ j, j < l0.length → ms_cell cy L' E u j = ms_cell cy L (ms_of l0) u j := fun j hj => by
    rw [← hE]
    exact ms_cell_L (ms_of_K hj) (ms_of_N hj) (ms_of_R hj) (fun k b hb => hL b (hcl.1 j k b hj hb)) (fun h6 h0 => hL _ (hcl.2 j ⟨hj, h6⟩ h0))
  have hmid : ms_cell cy L' E u l0.length = .inl (cy 17, N, .inr (.inr (.inr (.inr (fun i => if i < N then some (L' (l0.length + 1 + i)) else none))))) := by
    rw [← hE, ms_cell_q ms_of_at.1.2 hkd, ms_of_at.2.1, ms_of_at.2.2]
    have e : (fun k => Option.map L' (if k < N then some (l0.length + 1 + k) else none)) = fun k => if k < N then some (L' (l0.length + 1 + k)) else none := by
      funext k
      by_cases h : k < N <;> simp [h]
    simp only [e]
  have hrow : ∀ i, i < N → ms_cell cy L' E u (l0.length + 1 + i) = .inl (cy 13, K, .inl (fun _ => 0)) := fun i hi => by
    have e : (l0 ++ (kd, N, fun i => if i < N then some (l0.length + 1 + i) else none) :: List.replicate N ((13, K, fun _ => none) : ms_Ce))[l0.length + 1 + i]? = some (13, K, fun _ => none) := by
      rw [List.getElem?_append_right (by omega), show l0.length + 1 + i - l0.length = i + 1 by omega, List.getElem?_cons_succ, List.getElem?_replicate, if_pos hi]
    have hk : ms_K E (l0.length + 1 + i) = 13 := by
      rw [← hE]
      show (Option.map _ _).getD 99 = 13
      rw [e]; rfl
    have hn : ms_N E (l0.length + 1 + i) = K := by
      rw [← hE]
      show (Option.map _ _).getD 0 = K
      rw [e]; rfl
    rw [ms_cell_i hk (by decide), hn, (hz _ (by omega)).1]
  apply List.ext_getElem?
  intro j
  by_cases hj : j < l0.length
  · rw [ms_ws_get (by rw [hZ]; omega), List.getElem?_append_left (by simp [ms_ws, ms_of_Z]; omega), List.getElem?_append_left (by simp [ms_ws, ms_of_Z]; omega), ms_ws_get (by rw [ms_of_Z]; exact hj), hL j hj, hold j hj]
  · by_cases hj2 : j = l0.length
    · subst hj2
      rw [ms_ws_get (by rw [hZ]; omega), List.getElem?_append_left (by simp [ms_ws, ms_of_Z]), List.getElem?_append_right (by simp [ms_ws, ms_of_Z]), hmid]
      simp [ms_ws, ms_of_Z]
    · by_cases hj3 : j < l0.length + 1 + N
      · obtain ⟨i, rfl⟩ : ∃ i, j = l0.length + 1 + i := ⟨j - l0.length - 1, by omega⟩
        rw [ms_ws_get (by rw [hZ]; omega), List.getElem?_append_right (by simp [ms_ws, ms_of_Z]), hrow i (by omega)]
        simp [ms_ws, ms_of_Z, show i < N by omega]
      · rw [List.getElem?_eq_none (by simp [ms_ws, hZ]; omega), List.getElem?_eq_none (by simp [ms_ws, ms_of_Z]; omega)]
theorem ms_Cl_grid {l0 : List ms_Ce} {u : ms_St} {kd N K : Nat} (hkd : 17 ≤ kd) (hcl : ms_Cl (ms_of l0) u) : ms_Cl (ms_of (l0 ++ (kd, N, fun i => if i < N then some (l0.length + 1 + i) else none) :: List.replicate N (13, K, fun _ => none))) u := by
  have hZ : ms_Z (ms_of (l0 ++ (kd, N, fun i => if i < N then some (l0.length + 1 + i) else none) :: List.replicate N (13, K, fun _ => none))) = l0.length + 1 + N := by rw [ms_of_Z]; simp; omega
  have hrow : ∀ i, i < N → (l0 ++ (kd, N, fun i => if i < N then some (l0.length + 1 + i) else none) :: List.replicate N ((13, K, fun _ => none) : ms_Ce))[l0.length + 1 + i]? = some (13, K, fun _ => none) := fun i hi => by
    rw [List.getElem?_append_right (by omega), show l0.length + 1 + i - l0.length = i + 1 by omega, List.getElem?_cons_succ, List.getElem?_replicate, if_pos hi]
  refine ⟨fun i k b hi hb => ?_, fun i hi h0 => ?_⟩
  · rw [hZ] at hi ⊢
    by_cases h1 : i < l0.length
    · rw [ms_of_R h1] at hb
      have := hcl.1 i k b h1 hb
      rw [ms_of_Z] at this
      omega
    · by_cases h2 : i = l0.length
      · subst h2
        rw [ms_of_at.2.2] at hb
        by_cases h3 : k < N
        · simp only [h3, if_true, Option.some.injEq] at hb; omega
        · simp only [h3, if_false] at hb; cases hb
      · obtain ⟨j, rfl⟩ : ∃ j, i = l0.length + 1 + j := ⟨i - l0.length - 1, by omega⟩
        have hb2 : (Option.bind ((l0 ++ (kd, N, fun i => if i < N then some (l0.length + 1 + i) else none) :: List.replicate N ((13, K, fun _ => none) : ms_Ce))[l0.length + 1 + j]?) fun c => c.2.2 k) = some b := hb
        rw [hrow j (by omega)] at hb2
        cases hb2
  · by_cases h1 : i < l0.length
    · rw [hZ]
      have := hcl.2 i ⟨h1, by rw [← ms_of_K h1]; exact hi.2⟩ h0
      rw [ms_of_Z] at this
      omega
    · by_cases h2 : i = l0.length
      · subst h2
        have := hi.2
        rw [ms_of_at.1.2] at this
        exfalso
        have h17 : kd = 6 := this
        omega
      · exfalso
        have hlt := hi.1
        rw [hZ] at hlt
        obtain ⟨j, rfl⟩ : ∃ j, i = l0.length + 1 + j := ⟨i - l0.length - 1, by omega⟩
        have hk : (Option.map (fun c : ms_Ce => c.1) ((l0 ++ (kd, N, fun i => if i < N then some (l0.length + 1 + i) else none) :: List.replicate N ((13, K, fun _ => none) : ms_Ce))[l0.length + 1 + j]?)).getD 99 = 6 := hi.2
        rw [hrow j (by omega)] at hk
        exact absurd (show (13 : Nat) = 6 from hk) (by decide)
section ATO
variable {p : Program} {l : Launch} {e : Env} {R : Room} {s : State} {m : MethodId} {args : Array Value} {below : List Frame} {meth : Method} {c : Code} {nL : Nat} {G : va_G} {cy : Nat → ClassId} {A : Nat → Prop} {L : Nat → Nat} {cells slots : Nat} {Q : State → Prop} {cc : ByteArray} {c0 : Cond} {own : String} {E : ms_En} {u : ms_St} {pc q n0 : Nat} {lv : List (Nat × Value)} {st : List Value} {l0 l1 : List ms_Ce}
theorem b_newI (C : ms_Cx p m c cc nL s args c0 own G cy A) {n : Int32} {N' : Nat} (hn0 : l0.length = n0) (hl1 : l0 ++ [(13, N', fun _ => none)] = l1) (h1 : Cond.arrayClass .int ∈ lw_g) (hz : ms_zz n0 u) (hn : ¬ n < 0) (hN : n.toNatClampNeg = N') (hby : N' * componentBytes .int ≤ 536870912) (r3 : cells + 1 ≤ R.cells) (r4 : slots + N' ≤ R.slots) (hdg : decode cc pc = .ok (.newarray .int, 2)) {lvf : (Nat → Nat) → List (Nat × Value)} {stf : (Nat → Nat) → List Value} (hlv : ∀ L' : Nat → Nat, (∀ i, i < n0 → L' i = L i) → lvf L' = lvf L) (hst : ∀ L' : Nat → Nat, (∀ i, i < n0 → L' i = L i) → stf L' = stf L) (hq : pc + 2 = q)
    (kk : ∀ L' : Nat → Nat, (∀ i, i < n0 → L' i = L i) → ms_At p l e R s m args below meth c nL G cy A L' (cells + 1) (slots + N') Q (ms_of l1) u (q) (lvf L') (.ref (L' n0) :: stf L')) : ms_At p l e R s m args below meth c nL G cy A L cells slots Q (ms_of l0) u (pc) (lvf L) (.int n :: stf L) := by
  subst hn0
  subst hl1
  exact a_newAI C h1 (hz _ (Nat.le_refl _)).1 hn hN hby r3 r4 hdg hlv hst hq kk
theorem b_newB (C : ms_Cx p m c cc nL s args c0 own G cy A) {n : Int32} {N' : Nat} (hn0 : l0.length = n0) (hl1 : l0 ++ [(12, N', fun _ => none)] = l1) (h1 : Cond.arrayClass .byte ∈ lw_g) (hz : ms_zz n0 u) (hn : ¬ n < 0) (hN : n.toNatClampNeg = N') (hby : N' * componentBytes .byte ≤ 536870912) (r3 : cells + 1 ≤ R.cells) (r4 : slots + N' ≤ R.slots) (hdg : decode cc pc = .ok (.newarray .byte, 2)) {lvf : (Nat → Nat) → List (Nat × Value)} {stf : (Nat → Nat) → List Value} (hlv : ∀ L' : Nat → Nat, (∀ i, i < n0 → L' i = L i) → lvf L' = lvf L) (hst : ∀ L' : Nat → Nat, (∀ i, i < n0 → L' i = L i) → stf L' = stf L) (hq : pc + 2 = q)
    (kk : ∀ L' : Nat → Nat, (∀ i, i < n0 → L' i = L i) → ms_At p l e R s m args below meth c nL G cy A L' (cells + 1) (slots + N') Q (ms_of l1) u (q) (lvf L') (.ref (L' n0) :: stf L')) : ms_At p l e R s m args below meth c nL G cy A L cells slots Q (ms_of l0) u (pc) (lvf L) (.int n :: stf L) := by
  subst hn0
  subst hl1
  exact a_newAB C h1 (hz _ (Nat.le_refl _)).1 hn hN hby r3 r4 hdg hlv hst hq kk
theorem b_newZ (C : ms_Cx p m c cc nL s args c0 own G cy A) {n : Int32} {N' : Nat} (hn0 : l0.length = n0) (hl1 : l0 ++ [(15, N', fun _ => none)] = l1) (h1 : Cond.arrayClass .boolean ∈ lw_g) (hz : ms_zz n0 u) (hn : ¬ n < 0) (hN : n.toNatClampNeg = N') (hby : N' * componentBytes .boolean ≤ 536870912) (r3 : cells + 1 ≤ R.cells) (r4 : slots + N' ≤ R.slots) (hdg : decode cc pc = .ok (.newarray .boolean, 2)) {lvf : (Nat → Nat) → List (Nat × Value)} {stf : (Nat → Nat) → List Value} (hlv : ∀ L' : Nat → Nat, (∀ i, i < n0 → L' i = L i) → lvf L' = lvf L) (hst : ∀ L' : Nat → Nat, (∀ i, i < n0 → L' i = L i) → stf L' = stf L) (hq : pc + 2 = q)
    (kk : ∀ L' : Nat → Nat, (∀ i, i < n0 → L' i = L i) → ms_At p l e R s m args below meth c nL G cy A L' (cells + 1) (slots + N') Q (ms_of l1) u (q) (lvf L') (.ref (L' n0) :: stf L')) : ms_At p l e R s m args below meth c nL G cy A L cells slots Q (ms_of l0) u (pc) (lvf L) (.int n :: stf L) := by
  subst hn0
  subst hl1
  exact a_newAZ C h1 (hz _ (Nat.le_refl _)).1 hn hN hby r3 r4 hdg hlv hst hq kk
theorem b_newJ (C : ms_Cx p m c cc nL s args c0 own G cy A) {n : Int32} {N' : Nat} (hn0 : l0.length = n0) (hl1 : l0 ++ [(14, N', fun _ => none)] = l1) (h1 : Cond.arrayClass .long ∈ lw_g) (hz : ms_zz n0 u) (hn : ¬ n < 0) (hN : n.toNatClampNeg = N') (hby : N' * componentBytes .long ≤ 536870912) (r3 : cells + 1 ≤ R.cells) (r4 : slots + N' ≤ R.slots) (hdg : decode cc pc = .ok (.newarray .long, 2)) {lvf : (Nat → Nat) → List (Nat × Value)} {stf : (Nat → Nat) → List Value} (hlv : ∀ L' : Nat → Nat, (∀ i, i < n0 → L' i = L i) → lvf L' = lvf L) (hst : ∀ L' : Nat → Nat, (∀ i, i < n0 → L' i = L i) → stf L' = stf L) (hq : pc + 2 = q)
    (kk : ∀ L' : Nat → Nat, (∀ i, i < n0 → L' i = L i) → ms_At p l e R s m args below meth c nL G cy A L' (cells + 1) (slots + N') Q (ms_of l1) u (q) (lvf L') (.ref (L' n0) :: stf L')) : ms_At p l e R s m args below meth c nL G cy A L cells slots Q (ms_of l0) u (pc) (lvf L) (.int n :: stf L) := by
  subst hn0
  subst hl1
  exact a_newAJ C h1 (hz _ (Nat.le_refl _)).1 (hz _ (Nat.le_refl _)).2 hn hN hby r3 r4 hdg hlv hst hq kk
theorem ms_oat {lp r : List ms_Ce} {n9 : Nat} {x : ms_Ce} (hn : lp.length = n9) : ms_is (ms_of (lp ++ x :: r)) n9 x.1 := by subst hn; exact ms_of_at.1
theorem ms_oatR {lp r : List ms_Ce} {n9 : Nat} {x : ms_Ce} (hn : lp.length = n9) : ms_R (ms_of (lp ++ x :: r)) n9 = x.2.2 := by subst hn; exact ms_of_at.2.2
theorem ms_oin {lp T : List ms_Ce} {n9 j : Nat} {x y : ms_Ce} (hn : lp.length = n9) (hj : T[j]? = some y) : ms_is (ms_of (lp ++ x :: T)) (n9 + 1 + j) y.1 ∧ ms_N (ms_of (lp ++ x :: T)) (n9 + 1 + j) = y.2.1 ∧ ms_R (ms_of (lp ++ x :: T)) (n9 + 1 + j) = y.2.2 := by
  subst hn
  have e : (lp ++ x :: T)[lp.length + 1 + j]? = some y := by rw [List.getElem?_append_right (by omega), show lp.length + 1 + j - lp.length = j + 1 by omega, List.getElem?_cons_succ, hj]
  refine ⟨⟨(List.getElem?_eq_some_iff.mp e).1, ?_⟩, ?_, ?_⟩
  · show (Option.map _ _).getD 99 = _
    rw [e]; rfl
  · show (Option.map _ _).getD 0 = _
    rw [e]; rfl
  · funext k
    show Option.bind _ _ = _
    rw [e]; rfl
theorem ms_oK {lp T : List ms_Ce} {n9 j i kd : Nat} {x : ms_Ce} (hn : lp.length = n9) (hi : n9 + 1 + j = i) (hj : (T[j]?).map (fun y => y.1) = some kd) : ms_is (ms_of (lp ++ x :: T)) i kd := by
  obtain ⟨y, hy, e⟩ := Option.map_eq_some_iff.mp hj
  rw [← hi, ← e]
  exact (ms_oin hn hy).1
theorem ms_oN {lp T : List ms_Ce} {n9 j i kd : Nat} {x : ms_Ce} (hn : lp.length = n9) (hi : n9 + 1 + j = i) (hj : (T[j]?).map (fun y => y.2.1) = some kd) : ms_N (ms_of (lp ++ x :: T)) i = kd := by
  obtain ⟨y, hy, e⟩ := Option.map_eq_some_iff.mp hj
  rw [← hi, ← e]
  exact (ms_oin hn hy).2.1
theorem ms_sR_in {lp Ta Tb : List ms_Ce} {n9 j k : Nat} {x y : ms_Ce} {v : Option Nat} (hn : lp.length = n9) (hj : Ta.length = j) : ms_sR (ms_of (lp ++ x :: (Ta ++ y :: Tb))) (n9 + 1 + j) k v = ms_of (lp ++ x :: (Ta ++ (y.1, y.2.1, va_up y.2.2 k v) :: Tb)) := by
  subst hn
  subst hj
  have e : ∀ z : ms_Ce, lp ++ x :: (Ta ++ z :: Tb) = (lp ++ x :: Ta) ++ z :: Tb := fun z => by simp
  rw [e, e, ← ms_sR_of, show lp.length + 1 + Ta.length = (lp ++ x :: Ta).length by simp; omega]
theorem a_E {E2 : ms_En} (hE : E = E2) (kk : ms_At p l e R s m args below meth c nL G cy A L cells slots Q E2 u (pc) (lv) (st)) : ms_At p l e R s m args below meth c nL G cy A L cells slots Q E u (pc) (lv) (st) := by subst hE; exact kk
theorem b_newT (C : ms_Cx p m c cc nL s args c0 own G cy A) {index : Nat} {n : Int32} {N' : Nat} (hn0 : l0.length = n0) (hl1 : l0 ++ [(16, N', fun _ => none)] = l1) (h1 : Cond.classLink own index "CensusWalk$Town" ∈ lw_g) (hz : ms_zz n0 u) (hn : ¬ n < 0) (hN : n.toNatClampNeg = N') (hby : N' * 4 ≤ 536870912) (r3 : cells + 1 ≤ R.cells) (r4 : slots + N' ≤ R.slots) (hdg : decode cc pc = .ok (.anewarray index, 3)) {lvf : (Nat → Nat) → List (Nat × Value)} {stf : (Nat → Nat) → List Value} (hlv : ∀ L' : Nat → Nat, (∀ i, i < n0 → L' i = L i) → lvf L' = lvf L) (hst : ∀ L' : Nat → Nat, (∀ i, i < n0 → L' i = L i) → stf L' = stf L) (hq : pc + 3 = q)
    (kk : ∀ L' : Nat → Nat, (∀ i, i < n0 → L' i = L i) → ms_At p l e R s m args below meth c nL G cy A L' (cells + 1) (slots + N') Q (ms_of l1) u (q) (lvf L') (.ref (L' n0) :: stf L')) : ms_At p l e R s m args below meth c nL G cy A L cells slots Q (ms_of l0) u (pc) (lvf L) (.int n :: stf L) := by
  subst hn0
  subst hl1
  exact a_newT C h1 (hz _ (Nat.le_refl _)).1 hn hN hby r3 r4 hdg hlv hst hq kk
theorem b_newC (C : ms_Cx p m c cc nL s args c0 own G cy A) {index ci N : Nat} {Cn : String} {T : u_T} (hn0 : l0.length = n0) (hl1 : l0 ++ [(ci, 0, fun _ => none)] = l1) (hin : ∀ w ∈ u_ws Cn T N, w ∈ lw_g) (hc : vwCl[ci]? = some (Cn, T, N)) (hci : ci < 12) (ty0 : Nat → FieldType) (hty : ∀ k, k < N → parseFieldDescriptor (T k).2.2.1 = some (ty0 k)) (hNl : (ms_fT ci).length = N) (hdf : ∀ j, j < N → defaultValue (ty0 j) = if (ms_fT ci).getD j 0 = 0 then .int 0 else .null) (h1 : Cond.classLink own index Cn ∈ lw_g) (h2 : Cond.instantiable Cn N ∈ lw_g) (h3 : Cond.initialized Cn ∈ lw_g) (hz : ms_zz n0 u) (r3 : cells + 1 ≤ R.cells) (r4 : slots + N ≤ R.slots) (hdg : decode cc pc = .ok (.new index, 3)) {lvf : (Nat → Nat) → List (Nat × Value)} {stf : (Nat → Nat) → List Value} (hlv : ∀ L' : Nat → Nat, (∀ i, i < n0 → L' i = L i) → lvf L' = lvf L) (hst : ∀ L' : Nat → Nat, (∀ i, i < n0 → L' i = L i) → stf L' = stf L) (hq : pc + 3 = q)
    (kk : ∀ L' : Nat → Nat, (∀ i, i < n0 → L' i = L i) → ms_At p l e R s m args below meth c nL G cy A L' (cells + 1) (slots + N) Q (ms_of l1) u (q) (lvf L') (.ref (L' n0) :: stf L')) : ms_At p l e R s m args below meth c nL G cy A L cells slots Q (ms_of l0) u (pc) (lvf L) (stf L) := by
  subst hn0
  subst hl1
  exact a_newC C hin hc hci ty0 hty hNl hdf h1 h2 h3 (hz _ (Nat.le_refl _)).1 r3 r4 hdg hlv hst hq kk
/-- new int[n][k] -/
theorem b_newM (C : ms_Cx p m c cc nL s args c0 own G cy A) {index kd : Nat} {n k : Int32} {N' K' : Nat} (hkd : 17 ≤ kd) (hn0 : l0.length = n0) (hl1 : l0 ++ (kd, N', fun i => if i < N' then some (n0 + 1 + i) else none) :: List.replicate N' (13, K', fun _ => none) = l1) (h1 : Cond.classLink own index "[[I" ∈ lw_g) (h2 : Cond.arrayClass .int ∈ lw_g) (hz : ms_zz n0 u) (hn : ¬ n < 0) (hk : ¬ k < 0) (hN : n.toNatClampNeg = N') (hM : k.toNatClampNeg = K') (hb1 : N' * 4 ≤ 536870912) (hb2 : K' * componentBytes .int ≤ 536870912) (hb3 : K' ≤ 536870912) (r3 : cells + (1 + N') ≤ R.cells) (r4 : slots + (N' + N' * K') ≤ R.slots) (hdg : decode cc pc = .ok (.multianewarray index 2, 4)) {lvf : (Nat → Nat) → List (Nat × Value)} {stf : (Nat → Nat) → List Value} (hlv : ∀ L' : Nat → Nat, (∀ i, i < n0 → L' i = L i) → lvf L' = lvf L) (hst : ∀ L' : Nat → Nat, (∀ i, i < n0 → L' i = L i) → stf L' = stf L) (hq : pc + 4 = q)
    (kk : ∀ L' : Nat → Nat, (∀ i, i < n0 → L' i = L i) → ms_At p l e R s m args below meth c nL G cy A L' (cells + 1 + N') (slots + N' + N' * K') Q (ms_of l1) u (q) (lvf L') (.ref (L' n0) :: stf L')) : ms_At p l e R s m args below meth c nL G cy A L cells slots Q (ms_of l0) u (pc) (lvf L) (.int k :: .int n :: stf L) := by
  subst hn0
  subst hl1
  subst hq
  intro H locs ls hw hS hl
  refine va_mna (X := ms_ws cy L (ms_of l0) u) (L := []) (f := fun _ => .inr (0, [])) (ty := .int) (cy := cy 13) (z := (K', .inl (fun _ => 0))) C.1.1 C.1.2.1 C.1.2.2.2.1 (C.1.2.2.2.2 _ (List.mem_cons_of_mem _ h1)) C.2.2.2.2.2.2.2.2.2.2.2.2.2 (C.1.2.2.2.2 _ (List.mem_cons_of_mem _ h2)) (C.2.1.2 1 _ rfl).2 C.2.1 (by show va_P _ _ (_ ++ []) _; rw [List.append_nil]; exact hw.1) (by show va_D _ (_ ++ []); rw [List.append_nil]; exact hw.2.1) hS C.2.2.1 hn hk hN hM hb1 hb2 hb3 rfl rfl r3 r4 (fun c => by first | rfl | (rw [vp_cell_i]; rfl) | (simp [Jvm.Free.Multi.innerC, vp_cell, arrCell, arrSlots, arrV, defaultValue]; done) | (rw [vp_cell_i, ← arrV_new]; rfl)) hdg (fun q9 r cA H1 hinj hnew g0 g1 g2 g3 => ?_)
  have hcA : cA = cy 17 := by
    have a1 := (g0.2 6 _ rfl).2
    have a2 := (C.2.1.2 5 _ rfl).2
    exact Option.some.inj ((show s.vm.findClass _ = some cA from a1).symm.trans (show s.vm.findClass _ = some (cy 17) from a2))
  subst hcA
  generalize hL1 : (fun i => if i < l0.length then L i else if i = l0.length then q9 else r (i - l0.length - 1)) = L1
  have hag : ∀ i, i < l0.length → L1 i = L i := fun i hi => by rw [← hL1]; simp only [hi, if_true]
  have hat : L1 l0.length = q9 := by rw [← hL1]; simp
  have hrw : ∀ i, L1 (l0.length + 1 + i) = r i := fun i => by
    rw [← hL1]
    simp only [show ¬ l0.length + 1 + i < l0.length by omega, show ¬ l0.length + 1 + i = l0.length by omega, if_false]
    congr 1
    omega
  have e := ms_ws_grid (cy := cy) (kd := kd) (N := N') (K := K') hkd hag hw.2.2 hz
  rw [hat] at e
  have e2 : va_pl ([] ++ (List.range N').map r) (vr_up (fun _ => Sum.inr (0, [])) ((List.range N').map r) (.inl (cy 13, K', .inl (fun _ => 0)))) = (List.range N').map (fun i => (L1 (l0.length + 1 + i), (.inl (cy 13, K', .inl (fun _ => 0)) : va_E))) := by
    unfold va_pl
    rw [List.nil_append, List.map_map]
    apply List.map_congr_left
    intro i hi
    show (r i, vr_up _ _ _ (r i)) = _
    rw [vr_up_in (List.mem_map.mpr ⟨i, hi, rfl⟩), hrw]
  simp only [List.nil_append] at g1 g2 e2
  rw [e2] at g1 g2
  simp only [← hrw] at g1 g2
  have := kk L1 hag H1 locs ls ⟨by rw [e]; exact g1, by rw [e]; exact g2, ms_Cl_grid hkd hw.2.2⟩ g3 (by rw [hlv _ hag]; exact hl)
  rw [hst _ hag, hat] at this
  exact this
theorem b_putC (C : ms_Cx p m c cc nL s args c0 own G cy A) {Cn : String} {T : u_T} {N ci : Nat} (hin : ∀ w ∈ u_ws Cn T N, w ∈ lw_g) (hc : vwCl[ci]? = some (Cn, T, N)) (hci : ci < 12) (ty0 : Nat → FieldType) (hty : ∀ k, k < N → parseFieldDescriptor (T k).2.2.1 = some (ty0 k)) (hnm : ∀ a, a < N → ∀ b, b < N → a ≠ b → (T a).2.1 ≠ (T b).2.1) {index k b : Nat} {ty : FieldType} {f : Nat → Option Nat} {r : List ms_Ce} (hn0 : l0.length = n0) (hdg : decode cc pc = .ok (.putfield index, 3)) (hk : k < N) (hkl : k < (ms_fT ci).length) (hf : (ms_fT ci).getD k 0 = 1) (h9 : Cond.fieldLink own index (T k).1 (T k).2.1 (T k).2.2.1 ∈ lw_g) (hfin : (T k).2.2.2 = true) (hin2 : meth.name = "<init>") (hdecl : (T k).1 = own) (hd : parseFieldDescriptor (T k).2.2.1 = some ty) (hn : narrow ty (.ref (L b)) = .ref (L b)) (hfit : fits ty (.ref (L b)) = true) (hb9 : b < n0 + 1 + r.length) (hq : pc + 3 = q) (kk : ms_At p l e R s m args below meth c nL G cy A L cells slots Q (ms_of (l0 ++ (ci, 0, va_up f k (some b)) :: r)) u (q) (lv) (st)) : ms_At p l e R s m args below meth c nL G cy A L cells slots Q (ms_of (l0 ++ (ci, 0, f) :: r)) u (pc) (lv) (.ref (L b) :: .ref (L n0) :: st) := by
  subst hn0
  exact a_putC (x := (ci, 0, f)) C hin hc hci ty0 hty hnm hdg rfl hk hkl hf h9 hfin hin2 hdecl hd hn hfit (by rw [List.length_append, List.length_cons]; omega) hq kk
end ATO
