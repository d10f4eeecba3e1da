/-! ===== MAKING: cells in the order in which they are made ===== -/
abbrev ms_Ce : Type := Nat × Nat × (Nat → Option Nat)
def ms_of (l : List ms_Ce) : ms_En := (fun i => ((l[i]?).map (fun c => c.1)).getD 99, fun i => ((l[i]?).map (fun c => c.2.1)).getD 0, fun i k => (l[i]?).bind (fun c => c.2.2 k), l.length)
theorem ms_of_Z (l : List ms_Ce) : ms_Z (ms_of l) = l.length := rfl
theorem ms_of_K {l r : List ms_Ce} {i : Nat} (h : i < l.length) : ms_K (ms_of (l ++ r)) i = ms_K (ms_of l) i := by
  show (((l ++ r)[i]?).map _).getD 99 = ((l[i]?).map _).getD 99
  rw [List.getElem?_append_left h]
theorem ms_of_N {l r : List ms_Ce} {i : Nat} (h : i < l.length) : ms_N (ms_of (l ++ r)) i = ms_N (ms_of l) i := by
  show (((l ++ r)[i]?).map _).getD 0 = ((l[i]?).map _).getD 0
  rw [List.getElem?_append_left h]
theorem ms_of_R {l r : List ms_Ce} {i : Nat} (h : i < l.length) : ms_R (ms_of (l ++ r)) i = ms_R (ms_of l) i := by
  funext k
  show ((l ++ r)[i]?).bind _ = (l[i]?).bind _
  rw [List.getElem?_append_left h]
theorem ms_of_at {l r : List ms_Ce} {c : ms_Ce} : ms_is (ms_of (l ++ c :: r)) l.length c.1 ∧ ms_N (ms_of (l ++ c :: r)) l.length = c.2.1 ∧ ms_R (ms_of (l ++ c :: r)) l.length = c.2.2 := by
  have e : (l ++ c :: r)[l.length]? = some c := by simp
  refine ⟨⟨by rw [ms_of_Z]; simp, ?_⟩, ?_, ?_⟩
  · show (((l ++ c :: r)[l.length]?).map _).getD 99 = _
    rw [e]; rfl
  · show (((l ++ c :: r)[l.length]?).map _).getD 0 = _
    rw [e]; rfl
  · funext k
    show ((l ++ c :: r)[l.length]?).bind _ = _
    rw [e]; rfl
theorem ms_sR_of {l r : List ms_Ce} {c : ms_Ce} {k : Nat} {v : Option Nat} : ms_sR (ms_of (l ++ c :: r)) l.length k v = ms_of (l ++ (c.1, c.2.1, va_up c.2.2 k v) :: r) := by
  have hz : ∀ i : Nat, i ≠ l.length → (l ++ (c.1, c.2.1, va_up c.2.2 k v) :: r)[i]? = (l ++ c :: r)[i]? := by
    intro i hi
    rcases Nat.lt_or_gt_of_ne hi with h | h
    · rw [List.getElem?_append_left h, List.getElem?_append_left h]
    · rw [List.getElem?_append_right (by omega), List.getElem?_append_right (by omega)]
      obtain ⟨j, hj⟩ : ∃ j, i - l.length = j + 1 := ⟨i - l.length - 1, by omega⟩
      rw [hj, List.getElem?_cons_succ, List.getElem?_cons_succ]
  have e1 : (l ++ c :: r)[l.length]? = some c := by simp
  have e2 : (l ++ (c.1, c.2.1, va_up c.2.2 k v) :: r)[l.length]? = some (c.1, c.2.1, va_up c.2.2 k v) := by simp
  unfold ms_sR ms_of ms_K ms_N ms_R ms_Z
  refine Prod.ext ?_ (Prod.ext ?_ (Prod.ext ?_ ?_))
  · funext i
    by_cases hi : i = l.length
    · subst hi; simp only [e1, e2, Option.map_some]
    · simp only [hz i hi]
  · funext i
    by_cases hi : i = l.length
    · subst hi; simp only [e1, e2, Option.map_some]
    · simp only [hz i hi]
  · funext i j
    by_cases hi : i = l.length
    · subst hi; simp only [e1, e2, Option.bind_some, ms_u2, va_up, true_and]
    · simp only [hz i hi, ms_u2, hi, false_and, if_false]
  · simp
theorem ms_fT2a : ∀ c, c < 12 → ∀ k, k < 34 → ¬ (ms_fT c).getD k 0 = 0 → ¬ (ms_fT c).getD k 0 = 1 → c = 6 ∧ k = 3 := by decide
theorem ms_fT2b : ∀ c, c < 12 → (ms_fT c).length ≤ 34 := by decide
theorem ms_fT2 {c k : Nat} (hc : c < 12) (f0 : ¬ (ms_fT c).getD k 0 = 0) (f1 : ¬ (ms_fT c).getD k 0 = 1) : c = 6 ∧ k = 3 := by
  rcases Nat.lt_or_ge k 34 with hk | hk
  · exact ms_fT2a c hc k hk f0 f1
  · exfalso
    apply f0
    rw [List.getD_eq_getElem?_getD, List.getElem?_eq_none (Nat.le_trans (ms_fT2b c hc) hk)]
    rfl
theorem ms_cell_L {cy : Nat → ClassId} {L L' : Nat → Nat} {E E' : ms_En} {u : ms_St} {i : Nat} (hK : ms_K E' i = ms_K E i) (hN : ms_N E' i = ms_N E i) (hR : ms_R E' i = ms_R E i) (h1 : ∀ k b, ms_R E i k = some b → L' b = L b) (h2 : ms_K E i = 6 → ms_I u i 3 ≠ 0 → L' (ms_I u i 3).toNatClampNeg = L (ms_I u i 3).toNatClampNeg) : ms_cell cy L' E' u i = ms_cell cy L E u i := by
  have hm : ∀ k, (ms_R E i k).map L' = (ms_R E i k).map L := fun k => by
    cases hb : ms_R E i k with
    | none => rfl
    | some b => rw [Option.map_some, Option.map_some, h1 k b hb]
  unfold ms_cell
  rw [hK, hN, hR]
  simp only [hm]
  by_cases hc : ms_K E i < 12
  · rw [if_pos hc, if_pos hc]
    have hf : ms_fs L' E' u i (ms_K E i) = ms_fs L E u i (ms_K E i) := by
      unfold ms_fs
      apply List.map_congr_left
      intro k _
      unfold ms_fv
      rw [hR, hm]
      by_cases f0 : (ms_fT (ms_K E i)).getD k 0 = 0
      · rw [if_pos f0, if_pos f0]
      · rw [if_neg f0, if_neg f0]
        by_cases f1 : (ms_fT (ms_K E i)).getD k 0 = 1
        · rw [if_pos f1, if_pos f1]
        · rw [if_neg f1, if_neg f1]
          by_cases z : ms_I u i k = 0
          · rw [if_pos z, if_pos z]
          · rw [if_neg z, if_neg z]
            have h6 : ms_K E i = 6 ∧ k = 3 := by
              exact ms_fT2 hc f0 f1
            rw [h6.2] at z ⊢
            rw [h2 h6.1 z]
    rw [hf]
  · rw [if_neg hc, if_neg hc]
/-- one cell more -/
theorem ms_ws_push {cy : Nat → ClassId} {L L' : Nat → Nat} {l : List ms_Ce} {c : ms_Ce} {u : ms_St} (hL : ∀ i, i < l.length → L' i = L i) (hcl : ms_Cl (ms_of l) u) : ms_ws cy L' (ms_of (l ++ [c])) u = ms_ws cy L (ms_of l) u ++ [(L' l.length, ms_cell cy L' (ms_of (l ++ [c])) u l.length)] := by
  unfold ms_ws
  rw [ms_of_Z, ms_of_Z, List.length_append, List.length_singleton, List.range_succ, List.map_append, List.map_singleton]
  congr 1
  apply List.map_congr_left
  intro i hi
  have hi := List.mem_range.mp hi
  rw [hL i hi, ms_cell_L (ms_of_K hi) (ms_of_N hi) (ms_of_R hi) (fun k b hb => hL b (hcl.1 i k b hi hb)) (fun h6 h0 => hL _ (hcl.2 i ⟨hi, h6⟩ h0))]
theorem ms_Cl_push {l : List ms_Ce} {c : ms_Ce} {u : ms_St} (hcl : ms_Cl (ms_of l) u) (hr : ∀ k, c.2.2 k = none) (hz : ms_I u l.length = fun _ => 0) : ms_Cl (ms_of (l ++ [c])) u := by
  have hln : (l ++ [c]).length = l.length + 1 := by simp
  refine ⟨fun i k b hi hb => ?_, fun i hi h0 => ?_⟩
  · rw [ms_of_Z, hln] at hi ⊢
    rcases Nat.lt_or_ge i l.length with h | h
    · rw [ms_of_R h] at hb
      exact Nat.lt_succ_of_lt (hcl.1 i k b h hb)
    · rw [show i = l.length by omega, (ms_of_at (r := [])).2.2, hr] at hb
      cases hb
  · rcases Nat.lt_or_ge i l.length with h | h
    · rw [ms_of_Z, hln]
      exact Nat.lt_succ_of_lt (hcl.2 i ⟨h, by rw [← ms_of_K h]; exact hi.2⟩ h0)
    · have : i < l.length + 1 := by rw [← hln]; exact hi.1
      rw [show i = l.length by omega, hz] at h0
      exact absurd rfl h0

theorem ms_fs_new {L : Nat → Nat} {l0 : List ms_Ce} {ci : Nat} {u : ms_St} {j : Nat} (hz : ms_I u l0.length = fun _ => 0) (hj : j < (ms_fT ci).length) : vp_V (ms_fs L (ms_of (l0 ++ [(ci, 0, fun _ => none)])) u l0.length ci) j = if (ms_fT ci).getD j 0 = 0 then .int 0 else .null := by
  unfold vp_V
  rw [List.getD_eq_getElem?_getD, ms_fs_get hj, Option.getD_some]
  unfold ms_fv
  have hR : ms_R (ms_of (l0 ++ [(ci, 0, fun _ => none)])) l0.length j = none := by rw [(ms_of_at (r := [])).2.2]
  rw [hz, hR]
  by_cases f0 : (ms_fT ci).getD j 0 = 0
  · rw [if_pos f0, if_pos f0]
  · rw [if_neg f0, if_neg f0]
    by_cases f1 : (ms_fT ci).getD j 0 = 1
    · rw [if_pos f1]; rfl
    · rw [if_neg f1, if_pos rfl]
section ATN
variable {p : Program} {l : Launch} {e : Env} {R : Room} {s : State} {m : MethodId} {args : Array Value} {below : List Frame} {meth : Method} {c : Code} {nL : Nat} {G : va_G} {cy : Nat → ClassId} {A : Nat → Prop} {L : Nat → Nat} {cells slots : Nat} {Q : State → Prop} {cc : ByteArray} {c0 : Cond} {own : String} {E : ms_En} {u : ms_St} {pc q : Nat} {lv : List (Nat × Value)} {st : List Value} {l0 : List ms_Ce}
theorem a_obj (C : ms_Cx p m c cc nL s args c0 own G cy A) {index a : Nat} (h1 : Cond.methodLink own index Lib.objectInit ∈ lw_g) (h2 : Cond.instanceMethod Lib.objectInit ∈ lw_g) (h3 : Cond.code Lib.objectInit ⟨#[0xb1]⟩ 1 none ∈ lw_g) (hdg : decode cc pc = .ok (.invokespecial index, 3)) (hfr : 1 ≤ R.frames) (hlo : 2 * (F0 m pc (#[] : Array Slot) st).monitorRoom + (st.map fun v => v.category).sum + 12 ≤ R.locals) (hq : pc + 3 = q) (kk : ms_At p l e R s m args below meth c nL G cy A L cells slots Q E u (q) (lv) (st)) : ms_At p l e R s m args below meth c nL G cy A L cells slots Q E u (pc) (lv) (.ref a :: st) := by
  subst hq
  intro H locs ls hw hS hl
  exact W.objInit C.1.1 C.1.2.1 C.1.2.2.2.1 (C.1.2.2.2.2 _ (List.mem_cons_of_mem _ h1)) (C.1.2.2.2.2 _ (List.mem_cons_of_mem _ h2)) (C.1.2.2.2.2 _ (List.mem_cons_of_mem _ h3)) rfl (hl.1.trans C.1.2.2.1.symm) rfl hdg hfr hlo (W.eq (g2 := F0 m (pc + 3) ls st) rfl (kk H locs ls hw hS hl))
/-- the memory with one cell more, at the new address q9 -/
theorem ms_Wd_push {H1 : Heap} {q9 : Nat} {x : ms_Ce} {e9 : va_E} {H : Heap} (hw : ms_Wd G cy A L (ms_of l0) u H) (hr : ∀ k, x.2.2 k = none) (hz : ms_I u l0.length = fun _ => 0) (he : ∀ L', ms_cell cy L' (ms_of (l0 ++ [x])) u l0.length = e9) (h1 : va_P G vwCl (ms_ws cy L (ms_of l0) u ++ [(q9, e9)]) H1) (h2 : va_D A (ms_ws cy L (ms_of l0) u ++ [(q9, e9)])) : ms_Wd G cy A (va_up L l0.length q9) (ms_of (l0 ++ [x])) u H1 := by
  have hag : ∀ i, i < l0.length → va_up L l0.length q9 i = L i := fun i hi => va_up_ne _ _ (Nat.ne_of_lt hi)
  have e := ms_ws_push (cy := cy) (c := x) hag hw.2.2
  rw [va_up_self, he] at e
  exact ⟨by rw [e]; exact h1, by rw [e]; exact h2, ms_Cl_push hw.2.2 hr hz⟩
theorem a_newC (C : ms_Cx p m c cc nL s args c0 own G cy A) {index ci N : Nat} {Cn : String} {T : u_T} (hin : ∀ w ∈ u_ws Cn T N, w ∈ lw_g) (hc : vwCl[ci]? = some (Cn, T, N)) (hci : ci < 12) (ty0 : Nat → FieldType) (hty : ∀ k, k < N → parseFieldDescriptor (T k).2.2.1 = some (ty0 k)) (hNl : (ms_fT ci).length = N) (hdf : ∀ j, j < N → defaultValue (ty0 j) = if (ms_fT ci).getD j 0 = 0 then .int 0 else .null) (h1 : Cond.classLink own index Cn ∈ lw_g) (h2 : Cond.instantiable Cn N ∈ lw_g) (h3 : Cond.initialized Cn ∈ lw_g) (hz : ms_I u l0.length = fun _ => 0) (r3 : cells + 1 ≤ R.cells) (r4 : slots + N ≤ R.slots) (hdg : decode cc pc = .ok (.new index, 3)) {lvf : (Nat → Nat) → List (Nat × Value)} {stf : (Nat → Nat) → List Value} (hlv : ∀ L' : Nat → Nat, (∀ i, i < l0.length → L' i = L i) → lvf L' = lvf L) (hst : ∀ L' : Nat → Nat, (∀ i, i < l0.length → L' i = L i) → stf L' = stf L) (hq : pc + 3 = q)
    (kk : ∀ L' : Nat → Nat, (∀ i, i < l0.length → L' i = L i) → ms_At p l e R s m args below meth c nL G cy A L' (cells + 1) (slots + N) Q (ms_of (l0 ++ [(ci, 0, fun _ => none)])) u (q) (lvf L') (.ref (L' l0.length) :: stf L')) : ms_At p l e R s m args below meth c nL G cy A L cells slots Q (ms_of l0) u (pc) (lvf L) (stf L) := by
  subst hq
  intro H locs ls hw hS hl
  refine va_new (ci := ci) (fs := ms_fs L (ms_of (l0 ++ [(ci, 0, fun _ => none)])) u l0.length ci) C.1.1 C.1.2.1 C.1.2.2.2.2 (fun w h => List.mem_cons_of_mem _ (hin w h)) ty0 hty C.1.2.2.2.1 (C.1.2.2.2.2 _ (List.mem_cons_of_mem _ h1)) (C.1.2.2.2.2 _ (List.mem_cons_of_mem _ h2)) (C.1.2.2.2.2 _ (List.mem_cons_of_mem _ h3)) C.2.1 hw.1 hw.2.1 hS C.2.2.1 hc (fun j hj => by rw [ms_fs_new hz (by rw [hNl]; exact hj), hdf j hj]) r3 r4 hdg (fun q9 H1 g1 g2 g3 => ?_)
  have hag : ∀ i, i < l0.length → va_up L l0.length q9 i = L i := fun i hi => va_up_ne _ _ (Nat.ne_of_lt hi)
  have hcell : ∀ L', ms_cell cy L' (ms_of (l0 ++ [(ci, 0, fun _ => none)])) u l0.length = .inr (ci, ms_fs L (ms_of (l0 ++ [(ci, 0, fun _ => none)])) u l0.length ci) := by
    intro L'
    rw [ms_cell_o (ms_of_at (r := [])).1.2 hci]
    have hx : ms_fs L' (ms_of (l0 ++ [(ci, 0, fun _ => none)])) u l0.length ci = ms_fs L (ms_of (l0 ++ [(ci, 0, fun _ => none)])) u l0.length ci := by
      unfold ms_fs
      apply List.map_congr_left
      intro k _
      unfold ms_fv
      have hR : ms_R (ms_of (l0 ++ [(ci, 0, fun _ => none)])) l0.length k = none := by rw [(ms_of_at (r := [])).2.2]
      rw [hz, hR]
      simp
    rw [hx]
  have := kk (va_up L l0.length q9) hag H1 locs ls (ms_Wd_push hw (fun _ => rfl) hz hcell g1 g2) g3 (by rw [hlv _ hag]; exact hl)
  rw [hst _ hag, va_up_self] at this
  exact this
theorem a_newAI (C : ms_Cx p m c cc nL s args c0 own G cy A) {n : Int32} {N' : Nat} (h1 : Cond.arrayClass .int ∈ lw_g) (hz : ms_I u l0.length = fun _ => 0) (hn : ¬ n < 0) (hN : n.toNatClampNeg = N') (hby : N' * componentBytes .int ≤ 536870912) (r3 : cells + 1 ≤ R.cells) (r4 : slots + N' ≤ R.slots) (hdg : decode cc pc = .ok (.newarray .int, 2)) {lvf : (Nat → Nat) → List (Nat × Value)} {stf : (Nat → Nat) → List Value} (hlv : ∀ L' : Nat → Nat, (∀ i, i < l0.length → L' i = L i) → lvf L' = lvf L) (hst : ∀ L' : Nat → Nat, (∀ i, i < l0.length → L' i = L i) → stf L' = stf L) (hq : pc + 2 = q)
    (kk : ∀ L' : Nat → Nat, (∀ i, i < l0.length → L' i = L i) → ms_At p l e R s m args below meth c nL G cy A L' (cells + 1) (slots + N') Q (ms_of (l0 ++ [(13, N', fun _ => none)])) u (q) (lvf L') (.ref (L' l0.length) :: stf L')) : ms_At p l e R s m args below meth c nL G cy A L cells slots Q (ms_of l0) u (pc) (lvf L) (.int n :: stf L) := by
  subst hq
  intro H locs ls hw hS hl
  refine va_newa (atype := .int) (ty := .int) (a0 := (N', .inl (fun _ => 0))) C.1.1 C.1.2.1 (C.1.2.2.2.2 _ (List.mem_cons_of_mem _ h1)) rfl C.2.1 hw.1 hw.2.1 hS C.2.2.1 (fun cA => rfl) hn hN hby r3 r4 hdg (fun q9 cA H1 g0 g1 g2 g3 => ?_)
  have hcA : cA = cy 13 := by
    have a1 := (g0.2 6 _ rfl).2
    have a2 := (C.2.1.2 1 _ rfl).2
    exact Option.some.inj ((show s.vm.findClass _ = some cA from a1).symm.trans (show s.vm.findClass _ = some (cy 13) from a2))
  subst hcA
  have hag : ∀ i, i < l0.length → va_up L l0.length q9 i = L i := fun i hi => va_up_ne _ _ (Nat.ne_of_lt hi)
  have hcell : ∀ L', ms_cell cy L' (ms_of (l0 ++ [(13, N', fun _ => none)])) u l0.length = .inl (cy 13, N', .inl (fun _ => 0)) := by
    intro L'
    rw [ms_cell_i (c := 13) (ms_of_at (r := [])).1.2 (by decide), (ms_of_at (r := [])).2.1, hz]
  have := kk (va_up L l0.length q9) hag H1 locs ls (ms_Wd_push hw (fun _ => rfl) hz hcell g1 g2) g3 (by rw [hlv _ hag]; exact hl)
  rw [hst _ hag, va_up_self] at this
  exact this
theorem a_newAB (C : ms_Cx p m c cc nL s args c0 own G cy A) {n : Int32} {N' : Nat} (h1 : Cond.arrayClass .byte ∈ lw_g) (hz : ms_I u l0.length = fun _ => 0) (hn : ¬ n < 0) (hN : n.toNatClampNeg = N') (hby : N' * componentBytes .byte ≤ 536870912) (r3 : cells + 1 ≤ R.cells) (r4 : slots + N' ≤ R.slots) (hdg : decode cc pc = .ok (.newarray .byte, 2)) {lvf : (Nat → Nat) → List (Nat × Value)} {stf : (Nat → Nat) → List Value} (hlv : ∀ L' : Nat → Nat, (∀ i, i < l0.length → L' i = L i) → lvf L' = lvf L) (hst : ∀ L' : Nat → Nat, (∀ i, i < l0.length → L' i = L i) → stf L' = stf L) (hq : pc + 2 = q)
    (kk : ∀ L' : Nat → Nat, (∀ i, i < l0.length → L' i = L i) → ms_At p l e R s m args below meth c nL G cy A L' (cells + 1) (slots + N') Q (ms_of (l0 ++ [(12, N', fun _ => none)])) u (q) (lvf L') (.ref (L' l0.length) :: stf L')) : ms_At p l e R s m args below meth c nL G cy A L cells slots Q (ms_of l0) u (pc) (lvf L) (.int n :: stf L) := by
  subst hq
  intro H locs ls hw hS hl
  refine va_newa (atype := .byte) (ty := .byte) (a0 := (N', .inl (fun _ => 0))) C.1.1 C.1.2.1 (C.1.2.2.2.2 _ (List.mem_cons_of_mem _ h1)) rfl C.2.1 hw.1 hw.2.1 hS C.2.2.1 (fun cA => rfl) hn hN hby r3 r4 hdg (fun q9 cA H1 g0 g1 g2 g3 => ?_)
  have hcA : cA = cy 12 := by
    have a1 := (g0.2 6 _ rfl).2
    have a2 := (C.2.1.2 0 _ rfl).2
    exact Option.some.inj ((show s.vm.findClass _ = some cA from a1).symm.trans (show s.vm.findClass _ = some (cy 12) from a2))
  subst hcA
  have hag : ∀ i, i < l0.length → va_up L l0.length q9 i = L i := fun i hi => va_up_ne _ _ (Nat.ne_of_lt hi)
  have hcell : ∀ L', ms_cell cy L' (ms_of (l0 ++ [(12, N', fun _ => none)])) u l0.length = .inl (cy 12, N', .inl (fun _ => 0)) := by
    intro L'
    rw [ms_cell_i (c := 12) (ms_of_at (r := [])).1.2 (by decide), (ms_of_at (r := [])).2.1, hz]
  have := kk (va_up L l0.length q9) hag H1 locs ls (ms_Wd_push hw (fun _ => rfl) hz hcell g1 g2) g3 (by rw [hlv _ hag]; exact hl)
  rw [hst _ hag, va_up_self] at this
  exact this
theorem a_newAZ (C : ms_Cx p m c cc nL s args c0 own G cy A) {n : Int32} {N' : Nat} (h1 : Cond.arrayClass .boolean ∈ lw_g) (hz : ms_I u l0.length = fun _ => 0) (hn : ¬ n < 0) (hN : n.toNatClampNeg = N') (hby : N' * componentBytes .boolean ≤ 536870912) (r3 : cells + 1 ≤ R.cells) (r4 : slots + N' ≤ R.slots) (hdg : decode cc pc = .ok (.newarray .boolean, 2)) {lvf : (Nat → Nat) → List (Nat × Value)} {stf : (Nat → Nat) → List Value} (hlv : ∀ L' : Nat → Nat, (∀ i, i < l0.length → L' i = L i) → lvf L' = lvf L) (hst : ∀ L' : Nat → Nat, (∀ i, i < l0.length → L' i = L i) → stf L' = stf L) (hq : pc + 2 = q)
    (kk : ∀ L' : Nat → Nat, (∀ i, i < l0.length → L' i = L i) → ms_At p l e R s m args below meth c nL G cy A L' (cells + 1) (slots + N') Q (ms_of (l0 ++ [(15, N', fun _ => none)])) u (q) (lvf L') (.ref (L' l0.length) :: stf L')) : ms_At p l e R s m args below meth c nL G cy A L cells slots Q (ms_of l0) u (pc) (lvf L) (.int n :: stf L) := by
  subst hq
  intro H locs ls hw hS hl
  refine va_newa (atype := .boolean) (ty := .boolean) (a0 := (N', .inl (fun _ => 0))) C.1.1 C.1.2.1 (C.1.2.2.2.2 _ (List.mem_cons_of_mem _ h1)) rfl C.2.1 hw.1 hw.2.1 hS C.2.2.1 (fun cA => rfl) hn hN hby r3 r4 hdg (fun q9 cA H1 g0 g1 g2 g3 => ?_)
  have hcA : cA = cy 15 := by
    have a1 := (g0.2 6 _ rfl).2
    have a2 := (C.2.1.2 3 _ rfl).2
    exact Option.some.inj ((show s.vm.findClass _ = some cA from a1).symm.trans (show s.vm.findClass _ = some (cy 15) from a2))
  subst hcA
  have hag : ∀ i, i < l0.length → va_up L l0.length q9 i = L i := fun i hi => va_up_ne _ _ (Nat.ne_of_lt hi)
  have hcell : ∀ L', ms_cell cy L' (ms_of (l0 ++ [(15, N', fun _ => none)])) u l0.length = .inl (cy 15, N', .inl (fun _ => 0)) := by
    intro L'
    rw [ms_cell_i (c := 15) (ms_of_at (r := [])).1.2 (by decide), (ms_of_at (r := [])).2.1, hz]
  have := kk (va_up L l0.length q9) hag H1 locs ls (ms_Wd_push hw (fun _ => rfl) hz hcell g1 g2) g3 (by rw [hlv _ hag]; exact hl)
  rw [hst _ hag, va_up_self] at this
  exact this
theorem a_newAJ (C : ms_Cx p m c cc nL s args c0 own G cy A) {n : Int32} {N' : Nat} (h1 : Cond.arrayClass .long ∈ lw_g) (hz : ms_I u l0.length = fun _ => 0) (hz2 : ms_J u l0.length = fun _ => 0) (hn : ¬ n < 0) (hN : n.toNatClampNeg = N') (hby : N' * componentBytes .long ≤ 536870912) (r3 : cells + 1 ≤ R.cells) (r4 : slots + N' ≤ R.slots) (hdg : decode cc pc = .ok (.newarray .long, 2)) {lvf : (Nat → Nat) → List (Nat × Value)} {stf : (Nat → Nat) → List Value} (hlv : ∀ L' : Nat → Nat, (∀ i, i < l0.length → L' i = L i) → lvf L' = lvf L) (hst : ∀ L' : Nat → Nat, (∀ i, i < l0.length → L' i = L i) → stf L' = stf L) (hq : pc + 2 = q)
    (kk : ∀ L' : Nat → Nat, (∀ i, i < l0.length → L' i = L i) → ms_At p l e R s m args below meth c nL G cy A L' (cells + 1) (slots + N') Q (ms_of (l0 ++ [(14, N', fun _ => none)])) u (q) (lvf L') (.ref (L' l0.length) :: stf L')) : ms_At p l e R s m args below meth c nL G cy A L cells slots Q (ms_of l0) u (pc) (lvf L) (.int n :: stf L) := by
  subst hq
  intro H locs ls hw hS hl
  refine va_newa (atype := .long) (ty := .long) (a0 := (N', .inr (.inl (fun _ => 0)))) C.1.1 C.1.2.1 (C.1.2.2.2.2 _ (List.mem_cons_of_mem _ h1)) rfl C.2.1 hw.1 hw.2.1 hS C.2.2.1 (fun cA => rfl) hn hN hby r3 r4 hdg (fun q9 cA H1 g0 g1 g2 g3 => ?_)
  have hcA : cA = cy 14 := by
    have a1 := (g0.2 6 _ rfl).2
    have a2 := (C.2.1.2 2 _ rfl).2
    exact Option.some.inj ((show s.vm.findClass _ = some cA from a1).symm.trans (show s.vm.findClass _ = some (cy 14) from a2))
  subst hcA
  have hag : ∀ i, i < l0.length → va_up L l0.length q9 i = L i := fun i hi => va_up_ne _ _ (Nat.ne_of_lt hi)
  have hcell : ∀ L', ms_cell cy L' (ms_of (l0 ++ [(14, N', fun _ => none)])) u l0.length = .inl (cy 14, N', .inr (.inl (fun _ => 0))) := by
    intro L'
    rw [ms_cell_j (ms_of_at (r := [])).1.2, (ms_of_at (r := [])).2.1, hz2]
  have := kk (va_up L l0.length q9) hag H1 locs ls (ms_Wd_push hw (fun _ => rfl) hz hcell g1 g2) g3 (by rw [hlv _ hag]; exact hl)
  rw [hst _ hag, va_up_self] at this
  exact this
/-- a final reference field of the object that is being made -/
theorem a_putC (C : ms_Cx p m c cc nL s args c0 own G cy A) {Cn : String} {T : u_T} {N ci : Nat} (hin : ∀ w ∈ u_ws Cn T N, w ∈ lw_g) (hc : vwCl[ci]? = some (Cn, T, N)) (hci : ci < 12) (ty0 : Nat → FieldType) (hty : ∀ k, k < N → parseFieldDescriptor (T k).2.2.1 = some (ty0 k)) (hnm : ∀ a, a < N → ∀ b, b < N → a ≠ b → (T a).2.1 ≠ (T b).2.1) {index k b : Nat} {ty : FieldType} {x : ms_Ce} {r : List ms_Ce} (hdg : decode cc pc = .ok (.putfield index, 3)) (hx : x.1 = ci) (hk : k < N) (hkl : k < (ms_fT ci).length) (hf : (ms_fT ci).getD k 0 = 1) (h9 : Cond.fieldLink own index (T k).1 (T k).2.1 (T k).2.2.1 ∈ lw_g) (hfin : (T k).2.2.2 = true) (hin2 : meth.name = "<init>") (hdecl : (T k).1 = own) (hd : parseFieldDescriptor (T k).2.2.1 = some ty) (hn : narrow ty (.ref (L b)) = .ref (L b)) (hfit : fits ty (.ref (L b)) = true) (hb9 : b < (l0 ++ x :: r).length) (hq : pc + 3 = q) (kk : ms_At p l e R s m args below meth c nL G cy A L cells slots Q (ms_of (l0 ++ (x.1, x.2.1, va_up x.2.2 k (some b)) :: r)) u (q) (lv) (st)) : ms_At p l e R s m args below meth c nL G cy A L cells slots Q (ms_of (l0 ++ x :: r)) u (pc) (lv) (.ref (L b) :: .ref (L l0.length) :: st) := by
  rw [← ms_sR_of] at kk
  exact a_putFR C hin hc hci ty0 hty hnm hdg (by rw [← hx]; exact ms_of_at.1) hk hkl hf h9 hfin hin2 hdecl hd hn hfit hb9 hq kk
/-- new Town[n] -/
theorem a_newT (C : ms_Cx p m c cc nL s args c0 own G cy A) {index : Nat} {n : Int32} {N' : Nat} (h1 : Cond.classLink own index "CensusWalk$Town" ∈ lw_g) (hz : ms_I u l0.length = fun _ => 0) (hn : ¬ n < 0) (hN : n.toNatClampNeg = N') (hby : N' * 4 ≤ 536870912) (r3 : cells + 1 ≤ R.cells) (r4 : slots + N' ≤ R.slots) (hdg : decode cc pc = .ok (.anewarray index, 3)) {lvf : (Nat → Nat) → List (Nat × Value)} {stf : (Nat → Nat) → List Value} (hlv : ∀ L' : Nat → Nat, (∀ i, i < l0.length → L' i = L i) → lvf L' = lvf L) (hst : ∀ L' : Nat → Nat, (∀ i, i < l0.length → L' i = L i) → stf L' = stf L) (hq : pc + 3 = q)
    (kk : ∀ L' : Nat → Nat, (∀ i, i < l0.length → L' i = L i) → ms_At p l e R s m args below meth c nL G cy A L' (cells + 1) (slots + N') Q (ms_of (l0 ++ [(16, N', fun _ => none)])) u (q) (lvf L') (.ref (L' l0.length) :: stf L')) : ms_At p l e R s m args below meth c nL G cy A L cells slots Q (ms_of l0) u (pc) (lvf L) (.int n :: stf L) := by
  subst hq
  intro H locs ls hw hS hl
  refine va_newq C.1.1 C.1.2.1 C.1.2.2.2.1 (C.1.2.2.2.2 _ (List.mem_cons_of_mem _ h1)) C.2.2.2.2.2.2.2.2.2.2.2.2.1 C.2.1 hw.1 hw.2.1 hS C.2.2.1 hn hN hby r3 r4 hdg (fun q9 cA H1 g0 g1 g2 g3 => ?_)
  have hcA : cA = cy 16 := by
    obtain ⟨k1, c1, -, -, -, a1⟩ := (g0.2 6 _ rfl).2
    obtain ⟨k2, c2, -, -, -, a2⟩ := (C.2.1.2 4 _ rfl).2
    exact Option.some.inj (a1.symm.trans a2)
  subst hcA
  have hag : ∀ i, i < l0.length → va_up L l0.length q9 i = L i := fun i hi => va_up_ne _ _ (Nat.ne_of_lt hi)
  have hcell : ∀ L', ms_cell cy L' (ms_of (l0 ++ [(16, N', fun _ => none)])) u l0.length = .inl (cy 16, N', .inr (.inr (.inr (.inr (fun _ => none))))) := by
    intro L'
    rw [ms_cell_T (ms_of_at (r := [])).1.2, (ms_of_at (r := [])).2.1, (ms_of_at (r := [])).2.2]
    rfl
  have := kk (va_up L l0.length q9) hag H1 locs ls (ms_Wd_push hw (fun _ => rfl) hz hcell g1 g2) g3 (by rw [hlv _ hag]; exact hl)
  rw [hst _ hag, va_up_self] at this
  exact this
/-- a Town into a Town[] -/
theorem a_astT (C : ms_Cx p m c cc nL s args c0 own G cy A) {o b n : Nat} {i : Int32} (hdg : decode cc pc = .ok (.aastore, 1)) (ho : ms_is E o 16) (hb9 : ms_is E b 7) (hN : ms_N E o = n) (hin : vp_in i n) (hq : pc + 1 = q) (kk : ms_At p l e R s m args below meth c nL G cy A L cells slots Q (ms_sR E o i.toNatClampNeg (some b)) u (q) (lv) (st)) : ms_At p l e R s m args below meth c nL G cy A L cells slots Q E u (pc) (lv) (.ref (L b) :: .int i :: .ref (L o) :: st) := by
  subst hq
  subst hN
  intro H locs ls hw hS hl
  have hup : va_up (fun k => (ms_R E o k).map L) i.toNatClampNeg (some (L b)) = fun k => (ms_R (ms_sR E o i.toNatClampNeg (some b)) o k).map L := by
    funext k
    by_cases e : k = i.toNatClampNeg
    · subst e; simp [va_up, ms_sR, ms_R, ms_u2]
    · simp [va_up, ms_sR, ms_R, ms_u2, e]
  refine va_astq (f := fun k => (ms_R E o k).map L) C.1.1 C.1.2.1 C.2.1 hw.1 hw.2.1 hS o 4 b 7 (by rw [ms_ws_get ho.1, ms_cell_T ho.2]) rfl (by rw [ms_ws_get hb9.1, ms_cell_o hb9.2 (by decide)]) rfl hin hdg (fun H1 locs1 g1 g2 g3 => kk H1 locs1 ls ⟨?_, ?_, ms_Cl_sR hw.2.2 (fun _ h => by cases h; exact hb9.1)⟩ g3 hl)
  · rw [hup] at g1; rw [← ms_ws_sR, ms_cell_T (E := ms_sR E o i.toNatClampNeg (some b)) ho.2]; exact g1
  · rw [hup] at g2; rw [← ms_ws_sR, ms_cell_T (E := ms_sR E o i.toNatClampNeg (some b)) ho.2]; exact g2
/-- a constructor's contract: from the memory E, u to the memory E', u', the cells that were there where they were -/
def ms_MetC (l : Launch) (y : MethodName) (ws : List Cond) (rm : Room) (G : va_G) (cy : Nat → ClassId) (L : Nat → Nat) (E : ms_En) (av : List Value) (u : ms_St) (E' : ms_En) (u' : ms_St) (mc ms : Nat) : Prop :=
  ∀ sz : Nat, Met l y ws rm (va_Pc av (ms_B G cy L E u sz)) (va_Qv (fun L' : Nat → Nat => ∀ i, i < ms_Z E → L' i = L i) (fun L' t => ms_Wd G cy (va_A (ms_ws cy L E u) sz) L' E' u' t.heap ∧ va_K G vwCl (ms_ty cy) t) (va_A (ms_ws cy L E u) sz)) mc ms (va_A (ms_ws cy L E u) sz)
def ms_QC (below : List Frame) (args : Array Value) (s : State) (G : va_G) (cy : Nat → ClassId) (L : Nat → Nat) (Z : Nat) (A : Nat → Prop) (E' : ms_En) (u' : ms_St) (mc ms : Nat) : State → Prop := MQ below (va_Qv (fun L' : Nat → Nat => ∀ i, i < Z → L' i = L i) (fun L' t => ms_Wd G cy A L' E' u' t.heap ∧ va_K G vwCl (ms_ty cy) t) A) args s mc ms A
theorem ms_enterC {y : MethodName} {rm : Room} {av : List Value} {E' : ms_En} {u' : ms_St} {mc ms maxL : Nat} {cc2 : ByteArray} (hy : plainName y.cls = true) (hy2 : y.name = "<init>") (hlen : (lg_sl av).length ≤ maxL) (hlv : lv_args 0 av = lv)
    (body : ∀ (p : Program) (e : Env) (s : State) (m : MethodId) (args : Array Value) (below : List Frame) (meth : Method) (c : Code) (A : Nat → Prop), ms_Cx p m c cc2 maxL s args (Cond.code y cc2 maxL none) y.cls G cy A → meth.sig.returnType = none → meth.locks = false → meth.name = "<init>" →
      ms_At p l e rm s m args below meth c maxL G cy A L 0 0 (ms_QC below args s G cy L (ms_Z E) A E' u' mc ms) E u 0 lv []) : ms_MetC l y (Cond.code y cc2 maxL none :: lw_g) rm G cy L E av u E' u' mc ms := by
  intro sz
  refine Met.ofW (cc := cc2) (maxL := maxL) (ret := none) hy rfl ?_
  intro p e s m args below meth c s₁ B hml hv
  obtain ⟨rfl, hsz, hw, hK, hF⟩ := hv
  have hts := atoms_spec (ws := Cond.code y cc2 maxL none :: lw_g) B.pre
  have hown : s.vm.findClass y.cls = some m.cls := findClass_of_methodNamed B.named
  have hin2 : meth.name = "<init>" := (name_of_methodNamed B.named B.method).1.trans hy2
  subst hsz
  have hl := lv_entry av (n := maxL) hlen
  rw [lg_entry_eq]
  exact body p e s m _ below meth c _ ⟨⟨B.exec, B.bytes, hml, hown, hts⟩, hK, fun q h => Or.inr h, hF⟩ B.returns B.notSynchronized hin2 s.heap [] _ ⟨hw.1, hw.2.1.self, hw.2.2⟩ va_S.rf (by rw [← hlv]; exact hl)
theorem a_cret (C : ms_Cx p m c cc nL s args c0 own G cy A) {L0 : Nat → Nat} {Z mc ms : Nat} {E' : ms_En} {u' : ms_St} (hdg : decode cc pc = .ok (.return_, 1)) (hr : meth.sig.returnType = none) (hlocks : meth.locks = false) (h1 : cells ≤ mc) (h2 : slots ≤ ms) (hE : E = E') (hu : u = u') (hL : ∀ i, i < Z → L i = L0 i) : ms_At p l e R s m args below meth c nL G cy A L cells slots (ms_QC below args s G cy L0 Z A E' u' mc ms) E u (pc) (lv) ([]) := by
  subst hE
  subst hu
  exact fun H locs ls hw hS hl => W.widen h1 h2 (W.vret C.1.1 C.1.2.1 hr (fun t ht hW => ⟨⟨L, rfl, hL, by rw [ht]; exact hw, va_K.moved hW.alike C.2.1⟩, hS.F ht⟩) hS.2.2 hdg hlocks)
/-- a constructor's call (a nest mate's) -/
theorem a_callCN (C : ms_Cx p m c cc nL s args c0 own G cy A) {y : MethodName} {rm : Room} {E' : ms_En} {u' : ms_St} {mc ms maxL index o : Nat} {cc2 : ByteArray} {host : String} (hM : ms_MetC l y (Cond.code y cc2 maxL none :: lw_g) rm G cy L E [.ref (L o)] u E' u' mc ms) (h1 : (own, index, y, host) ∈ ms_nests) (h2 : Cond.instanceMethod y ∈ lw_g) (h4 : Cond.initialized y.cls ∈ lw_g) (h5 : Cond.code y cc2 maxL none ∈ lw_g) (hy2 : y.name = "<init>") (hrc : rm.cells = mc) (hrs : rm.slots = ms) (hd : y.cls ≠ "java/lang/invoke/MethodHandle" ∧ y.cls ≠ "java/lang/invoke/VarHandle" ∧ (parseMethodDescriptor y.desc).map (fun d => d.parameters.length) = some 0) (hR : rm.frames + 1 ≤ R.frames ∧ 8 + (maxL + 11) + rm.locals ≤ R.locals)
    (hdg : decode cc pc = .ok (.invokespecial index, 3)) {z9 : Nat} (hZ : ms_Z E = z9) {lvf : (Nat → Nat) → List (Nat × Value)} {stf : (Nat → Nat) → List Value} (hlv : ∀ L' : Nat → Nat, (∀ i, i < z9 → L' i = L i) → lvf L' = lvf L) (hst : ∀ L' : Nat → Nat, (∀ i, i < z9 → L' i = L i) → stf L' = stf L) (hW : ((stf L).map fun v => v.category).sum ≤ 8) (hf : cells + mc ≤ R.cells ∧ slots + ms ≤ R.slots) (hq : pc + 3 = q) (kk : ∀ L' : Nat → Nat, (∀ i, i < z9 → L' i = L i) → ms_At p l e R s m args below meth c nL G cy A L' (cells + mc) (slots + ms) Q E' u' (q) (lvf L') (stf L')) : ms_At p l e R s m args below meth c nL G cy A L cells slots Q E u (pc) (lvf L) (.ref (L o) :: stf L) := by
  subst hq
  subst hZ
  intro H locs ls hw hS hl
  refine va_callv (va_runIN (As := []) (rest := stf L) C.1 (hM H.size) ⟨va_cnB 0 C.1.2.2.2.2 (ms_goodIn [] (fun _ h => absurd h List.not_mem_nil) h5) rfl hrc hrs (C.2.2.2.1 _ h1) (C.1.2.2.2.2 _ (List.mem_cons_of_mem _ h4)) hd hR, hy2, C.1.2.2.2.2 _ (List.mem_cons_of_mem _ h2)⟩ ⟨ms_blind, ms_into C hw hS [.ref (L o)]⟩ rfl rfl hl.1 rfl (lv_room hW) hdg hf) hS (fun q _ h => ms_free C hw hS q h) (ms_free C hw hS) (fun L' t H1 locs1 ht hvm hag hB hz1 hk1 hS1 => ?_)
  have := kk L' hag H1 locs1 ls ⟨by rw [← ht]; exact hB.1.1, hB.1.2.1.weaken (fun _ q _ h => ms_free C hw hS q.1 h), hB.1.2.2⟩ hS1 (by rw [hlv _ hag]; exact hl)
  rw [hst _ hag] at this
  exact this
/-- a constructor's call -/
theorem a_callC (C : ms_Cx p m c cc nL s args c0 own G cy A) {y : MethodName} {rm : Room} {E' : ms_En} {u' : ms_St} {mc ms maxL index o : Nat} {cc2 : ByteArray} (hM : ms_MetC l y (Cond.code y cc2 maxL none :: lw_g) rm G cy L E [.ref (L o)] u E' u' mc ms) (h1 : Cond.methodLink own index y ∈ lw_g) (h2 : Cond.instanceMethod y ∈ lw_g) (h4 : Cond.initialized y.cls ∈ lw_g) (h5 : Cond.code y cc2 maxL none ∈ lw_g) (hy2 : y.name = "<init>") (hrc : rm.cells = mc) (hrs : rm.slots = ms) (hd : y.cls ≠ "java/lang/invoke/MethodHandle" ∧ y.cls ≠ "java/lang/invoke/VarHandle" ∧ (parseMethodDescriptor y.desc).map (fun d => d.parameters.length) = some 0) (hR : rm.frames + 1 ≤ R.frames ∧ 8 + (maxL + 11) + rm.locals ≤ R.locals)
    (hdg : decode cc pc = .ok (.invokespecial index, 3)) {z9 : Nat} (hZ : ms_Z E = z9) {lvf : (Nat → Nat) → List (Nat × Value)} {stf : (Nat → Nat) → List Value} (hlv : ∀ L' : Nat → Nat, (∀ i, i < z9 → L' i = L i) → lvf L' = lvf L) (hst : ∀ L' : Nat → Nat, (∀ i, i < z9 → L' i = L i) → stf L' = stf L) (hW : ((stf L).map fun v => v.category).sum ≤ 8) (hf : cells + mc ≤ R.cells ∧ slots + ms ≤ R.slots) (hq : pc + 3 = q) (kk : ∀ L' : Nat → Nat, (∀ i, i < z9 → L' i = L i) → ms_At p l e R s m args below meth c nL G cy A L' (cells + mc) (slots + ms) Q E' u' (q) (lvf L') (stf L')) : ms_At p l e R s m args below meth c nL G cy A L cells slots Q E u (pc) (lvf L) (.ref (L o) :: stf L) := by
  subst hq
  subst hZ
  intro H locs ls hw hS hl
  refine va_callv (va_runI (As := []) (rest := stf L) C.1 (hM H.size) (cwI 0 C.1.2.2.2.2 (ms_goodIn [] (fun _ h => absurd h List.not_mem_nil) h5) rfl hrc hrs (C.1.2.2.2.2 _ (List.mem_cons_of_mem _ h4)) (C.1.2.2.2.2 _ (List.mem_cons_of_mem _ h1)) (C.1.2.2.2.2 _ (List.mem_cons_of_mem _ h2)) hy2 hd hR) ⟨ms_blind, ms_into C hw hS [.ref (L o)]⟩ rfl rfl hl.1 rfl (lv_room hW) hdg hf) hS (fun q _ h => ms_free C hw hS q h) (ms_free C hw hS) (fun L' t H1 locs1 ht hvm hag hB hz1 hk1 hS1 => ?_)
  have := kk L' hag H1 locs1 ls ⟨by rw [← ht]; exact hB.1.1, hB.1.2.1.weaken (fun _ q _ h => ms_free C hw hS q.1 h), hB.1.2.2⟩ hS1 (by rw [hlv _ hag]; exact hl)
  rw [hst _ hag] at this
  exact this
end ATN
