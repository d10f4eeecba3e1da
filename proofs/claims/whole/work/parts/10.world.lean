/-! ===== THE WORLD: one memory of cells by their numbers; cell i lies at the address L i ===== -/
/-- kinds, lengths, references, how many cells, ints, longs -/
abbrev ms_St : Type := (Nat → Nat) × (Nat → Nat) × (Nat → Nat → Option Nat) × Nat × (Nat → Nat → Int32) × (Nat → Nat → Int64)
def ms_K (u : ms_St) : Nat → Nat := u.1
def ms_N (u : ms_St) : Nat → Nat := u.2.1
def ms_R (u : ms_St) : Nat → Nat → Option Nat := u.2.2.1
def ms_Z (u : ms_St) : Nat := u.2.2.2.1
def ms_I (u : ms_St) : Nat → Nat → Int32 := u.2.2.2.2.1
def ms_J (u : ms_St) : Nat → Nat → Int64 := u.2.2.2.2.2
def ms_u2 {α : Type} (f : Nat → Nat → α) (o k : Nat) (v : α) : Nat → Nat → α := fun a b => if a = o ∧ b = k then v else f a b
def ms_rw {α : Type} (f : Nat → Nat → α) (o : Nat) (g : Nat → α) : Nat → Nat → α := fun a b => if a = o then g b else f a b
def ms_sI (u : ms_St) (o k : Nat) (v : Int32) : ms_St := (ms_K u, ms_N u, ms_R u, ms_Z u, ms_u2 (ms_I u) o k v, ms_J u)
def ms_sJ (u : ms_St) (o k : Nat) (v : Int64) : ms_St := (ms_K u, ms_N u, ms_R u, ms_Z u, ms_I u, ms_u2 (ms_J u) o k v)
def ms_sR (u : ms_St) (o k : Nat) (v : Option Nat) : ms_St := (ms_K u, ms_N u, ms_u2 (ms_R u) o k v, ms_Z u, ms_I u, ms_J u)
def ms_sA (u : ms_St) (o : Nat) (g : Nat → Int32) : ms_St := (ms_K u, ms_N u, ms_R u, ms_Z u, ms_rw (ms_I u) o g, ms_J u)
/-- cell o is there, of kind k -/
def ms_is (u : ms_St) (o k : Nat) : Prop := o < ms_Z u ∧ ms_K u o = k
/-- which fields of a kind hold references -/
def ms_fT : Nat → List Bool := fun c => match c with
  | 0 => [false, true, true, true, true, true, true, true, true]
  | 1 => [true]
  | 2 => [false, true, false, true, true, true, true, true, true, false, true, true, true, true, true, false]
  | 3 => [true, false, false, true, true, false, false, false]
  | 4 => [true, true, true, true, false, true, true, true, true]
  | 5 => [false, true, true, true, true]
  | 6 => [false, false, false, true, false, false]
  | 7 => [false, false, false, true, true, true]
  | 8 => [true, false, true]
  | 9 => [false, true, true, true, true]
  | 10 => [true, false, false, true, true, false, false, true, true, true, true, false, false]
  | 11 => [false, true, false, false, false, false, false, false, true, true, true, false, false, false, false, true, true, true, true, true, true, true, true, true, false, true, true, false, true, false, true, false, false, true]
  | _ => []
def ms_fs (L : Nat → Nat) (u : ms_St) (i c : Nat) : List Value := (List.range (ms_fT c).length).map (fun k => if (ms_fT c).getD k false = true then va_rf ((ms_R u i k).map L) else .int (ms_I u i k))
def ms_cell (cy : Nat → ClassId) (L : Nat → Nat) (u : ms_St) (i : Nat) : va_E :=
  if ms_K u i < 12 then .inr (ms_K u i, ms_fs L u i (ms_K u i))
  else if ms_K u i = 14 then .inl (cy 14, ms_N u i, .inr (.inl (ms_J u i)))
  else if 16 ≤ ms_K u i then .inl (cy (ms_K u i), ms_N u i, .inr (.inr (.inr (.inr (fun k => (ms_R u i k).map L)))))
  else .inl (cy (ms_K u i), ms_N u i, .inl (ms_I u i))
def ms_ws (cy : Nat → ClassId) (L : Nat → Nat) (u : ms_St) : va_W := (List.range (ms_Z u)).map (fun i => (L i, ms_cell cy L u i))
def ms_ty (cy : Nat → ClassId) : List (ClassId × FieldType) := [(cy 12, .byte), (cy 13, .int), (cy 14, .long), (cy 15, .boolean), (cy 16, .object "CensusWalk$Town"), (cy 17, .array .int)]
/-- the heap holds the memory; no reference leads out of it -/
def ms_Wd (G : va_G) (cy : Nat → ClassId) (A : Nat → Prop) (L : Nat → Nat) (u : ms_St) (H : Heap) : Prop := va_P G vwCl (ms_ws cy L u) H ∧ va_D A (ms_ws cy L u) ∧ ∀ i k b, i < ms_Z u → ms_R u i k = some b → b < ms_Z u
theorem ms_ws_get {cy : Nat → ClassId} {L : Nat → Nat} {u : ms_St} {i : Nat} (h : i < ms_Z u) : (ms_ws cy L u)[i]? = some (L i, ms_cell cy L u i) := by simp [ms_ws, h]
theorem ms_ws_set {cy : Nat → ClassId} {L : Nat → Nat} {u u' : ms_St} {i : Nat} (hZ : ms_Z u' = ms_Z u) (hc : ∀ j, j < ms_Z u → j ≠ i → ms_cell cy L u' j = ms_cell cy L u j) : (ms_ws cy L u).set i (L i, ms_cell cy L u' i) = ms_ws cy L u' := by
  apply List.ext_getElem?
  intro j
  by_cases hj : j < ms_Z u
  · by_cases e : j = i
    · subst e
      rw [List.getElem?_set_self (by simp [ms_ws, hj]), ms_ws_get (by rw [hZ]; exact hj)]
    · rw [List.getElem?_set_ne (Ne.symm e), ms_ws_get hj, ms_ws_get (by rw [hZ]; exact hj), hc j hj e]
  · rw [List.getElem?_eq_none (by simp [ms_ws]; omega), List.getElem?_eq_none (by simp [ms_ws, hZ]; omega)]
theorem ms_cell_o {cy : Nat → ClassId} {L : Nat → Nat} {u : ms_St} {i c : Nat} (h : ms_K u i = c) (hc : c < 12) : ms_cell cy L u i = .inr (c, ms_fs L u i c) := by
  subst h; simp [ms_cell, hc]
theorem ms_cell_i {cy : Nat → ClassId} {L : Nat → Nat} {u : ms_St} {i c : Nat} (h : ms_K u i = c) (hc : c = 12 ∨ c = 13 ∨ c = 15) : ms_cell cy L u i = .inl (cy c, ms_N u i, .inl (ms_I u i)) := by
  subst h
  unfold ms_cell
  rw [if_neg (by omega), if_neg (by omega), if_neg (by omega)]
theorem ms_cell_j {cy : Nat → ClassId} {L : Nat → Nat} {u : ms_St} {i : Nat} (h : ms_K u i = 14) : ms_cell cy L u i = .inl (cy 14, ms_N u i, .inr (.inl (ms_J u i))) := by
  unfold ms_cell
  rw [if_neg (by omega), if_pos h]
theorem ms_cell_q {cy : Nat → ClassId} {L : Nat → Nat} {u : ms_St} {i c : Nat} (h : ms_K u i = c) (hc : c = 16 ∨ c = 17) : ms_cell cy L u i = .inl (cy c, ms_N u i, .inr (.inr (.inr (.inr (fun k => (ms_R u i k).map L))))) := by
  subst h
  unfold ms_cell
  rw [if_neg (by omega), if_neg (by omega), if_pos (by omega)]
theorem ms_fs_get {L : Nat → Nat} {u : ms_St} {i c k : Nat} (hk : k < (ms_fT c).length) : (ms_fs L u i c)[k]? = some (if (ms_fT c).getD k false = true then va_rf ((ms_R u i k).map L) else .int (ms_I u i k)) := by simp [ms_fs, hk]
theorem ms_fs_setI {L : Nat → Nat} {u : ms_St} {i c k : Nat} {v : Int32} (hf : (ms_fT c).getD k false = false) : (ms_fs L u i c).set k (.int v) = ms_fs L (ms_sI u i k v) i c := by
  apply List.ext_getElem?
  intro j
  by_cases hj : j < (ms_fT c).length
  · by_cases e : j = k
    · subst e
      rw [List.getElem?_set_self (by simp [ms_fs, hj]), ms_fs_get hj, hf]
      simp [ms_sI, ms_I, ms_u2]
    · rw [List.getElem?_set_ne (Ne.symm e), ms_fs_get hj, ms_fs_get hj]
      simp [ms_sI, ms_I, ms_R, ms_u2, e]
  · rw [List.getElem?_eq_none (by simp [ms_fs]; omega), List.getElem?_eq_none (by simp [ms_fs]; omega)]
theorem ms_fs_setR {L : Nat → Nat} {u : ms_St} {i c k : Nat} {v : Option Nat} (hf : (ms_fT c).getD k false = true) : (ms_fs L u i c).set k (va_rf (v.map L)) = ms_fs L (ms_sR u i k v) i c := by
  apply List.ext_getElem?
  intro j
  by_cases hj : j < (ms_fT c).length
  · by_cases e : j = k
    · subst e
      rw [List.getElem?_set_self (by simp [ms_fs, hj]), ms_fs_get hj, hf]
      simp [ms_sR, ms_R, ms_u2]
    · rw [List.getElem?_set_ne (Ne.symm e), ms_fs_get hj, ms_fs_get hj]
      simp [ms_sR, ms_I, ms_R, ms_u2, e]
  · rw [List.getElem?_eq_none (by simp [ms_fs]; omega), List.getElem?_eq_none (by simp [ms_fs]; omega)]
theorem ms_fs_ne {L : Nat → Nat} {u u' : ms_St} {j c : Nat} (hI : ms_I u' j = ms_I u j) (hR : ms_R u' j = ms_R u j) : ms_fs L u' j c = ms_fs L u j c := by
  unfold ms_fs
  rw [hI, hR]
theorem ms_cell_ne {cy : Nat → ClassId} {L : Nat → Nat} {u u' : ms_St} {j : Nat} (hK : ms_K u' j = ms_K u j) (hN : ms_N u' j = ms_N u j) (hI : ms_I u' j = ms_I u j) (hR : ms_R u' j = ms_R u j) (hJ : ms_J u' j = ms_J u j) : ms_cell cy L u' j = ms_cell cy L u j := by
  unfold ms_cell
  rw [hK, hN, hI, hR, hJ, ms_fs_ne hI hR]
theorem ms_u2_ne {α : Type} {f : Nat → Nat → α} {o k j : Nat} {v : α} (h : j ≠ o) : ms_u2 f o k v j = f j := by
  funext b
  simp [ms_u2, h]
theorem ms_u2_up {f : Nat → Nat → Int32} {o k : Nat} {v : Int32} : ms_u2 f o k v o = upd (f o) k v := by
  funext b
  simp [ms_u2, upd]
theorem ms_u2_upL {f : Nat → Nat → Int64} {o k : Nat} {v : Int64} : ms_u2 f o k v o = vp_updL (f o) k v := by
  funext b
  simp [ms_u2, vp_updL]
theorem ms_rw_ne {α : Type} {f : Nat → Nat → α} {o j : Nat} {g : Nat → α} (h : j ≠ o) : ms_rw f o g j = f j := by
  funext b
  simp [ms_rw, h]
theorem ms_rw_eq {α : Type} {f : Nat → Nat → α} {o : Nat} {g : Nat → α} : ms_rw f o g o = g := by
  funext b
  simp [ms_rw]
/-- an int store at cell o -/
theorem ms_ws_sI {cy : Nat → ClassId} {L : Nat → Nat} {u : ms_St} {o k : Nat} {v : Int32} : (ms_ws cy L u).set o (L o, ms_cell cy L (ms_sI u o k v) o) = ms_ws cy L (ms_sI u o k v) :=
  ms_ws_set rfl (fun _ _ h => ms_cell_ne rfl rfl (ms_u2_ne h) rfl rfl)
theorem ms_ws_sJ {cy : Nat → ClassId} {L : Nat → Nat} {u : ms_St} {o k : Nat} {v : Int64} : (ms_ws cy L u).set o (L o, ms_cell cy L (ms_sJ u o k v) o) = ms_ws cy L (ms_sJ u o k v) :=
  ms_ws_set rfl (fun _ _ h => ms_cell_ne rfl rfl rfl rfl (ms_u2_ne h))
theorem ms_ws_sR {cy : Nat → ClassId} {L : Nat → Nat} {u : ms_St} {o k : Nat} {v : Option Nat} : (ms_ws cy L u).set o (L o, ms_cell cy L (ms_sR u o k v) o) = ms_ws cy L (ms_sR u o k v) :=
  ms_ws_set rfl (fun _ _ h => ms_cell_ne rfl rfl rfl (ms_u2_ne h) rfl)
theorem ms_ws_sA {cy : Nat → ClassId} {L : Nat → Nat} {u : ms_St} {o : Nat} {g : Nat → Int32} : (ms_ws cy L u).set o (L o, ms_cell cy L (ms_sA u o g) o) = ms_ws cy L (ms_sA u o g) :=
  ms_ws_set rfl (fun _ _ h => ms_cell_ne rfl rfl (ms_rw_ne h) rfl rfl)
theorem ms_cl_sR {u : ms_St} {o k : Nat} {v : Option Nat} (h : ∀ i k b, i < ms_Z u → ms_R u i k = some b → b < ms_Z u) (hv : ∀ b, v = some b → b < ms_Z u) : ∀ i j b, i < ms_Z (ms_sR u o k v) → ms_R (ms_sR u o k v) i j = some b → b < ms_Z (ms_sR u o k v) := by
  intro i j b hi hb
  by_cases e : i = o ∧ j = k
  · exact hv b (by simpa [ms_sR, ms_R, ms_u2, e] using hb)
  · exact h i j b hi (by simpa [ms_sR, ms_R, ms_u2, e] using hb)
