/-! ===== THE WORLD: one memory of cells by their numbers; cell i lies at the address L i ===== -/
/-- what stays once it is made: kinds, lengths, references, how many cells; a kind below 12 is an object of that class of vwCl, 12 byte[], 13 int[], 14 long[], 15 boolean[], 16 Town[], 17 to 20 int[][] -/
abbrev ms_En : Type := (Nat → Nat) × (Nat → Nat) × (Nat → Nat → Option Nat) × Nat
/-- what moves: ints (booleans, bytes; the one reference that moves, Tokens.text, as its cell's number), longs -/
abbrev ms_St : Type := (Nat → Nat → Int32) × (Nat → Nat → Int64)
def ms_K (E : ms_En) : Nat → Nat := E.1
def ms_N (E : ms_En) : Nat → Nat := E.2.1
def ms_R (E : ms_En) : Nat → Nat → Option Nat := E.2.2.1
def ms_Z (E : ms_En) : Nat := E.2.2.2
def ms_I (u : ms_St) : Nat → Nat → Int32 := u.1
def ms_J (u : ms_St) : Nat → Nat → Int64 := u.2
def ms_u2 {α : Type} (f : Nat → Nat → α) (o k : Nat) (v : α) : Nat → Nat → α := fun a b => if a = o ∧ b = k then v else f a b
def ms_rw {α : Type} (f : Nat → Nat → α) (o : Nat) (g : Nat → α) : Nat → Nat → α := fun a b => if a = o then g b else f a b
def ms_sI (u : ms_St) (o k : Nat) (v : Int32) : ms_St := (ms_u2 (ms_I u) o k v, ms_J u)
def ms_sJ (u : ms_St) (o k : Nat) (v : Int64) : ms_St := (ms_I u, ms_u2 (ms_J u) o k v)
def ms_sA (u : ms_St) (o : Nat) (g : Nat → Int32) : ms_St := (ms_rw (ms_I u) o g, ms_J u)
def ms_sR (E : ms_En) (o k : Nat) (v : Option Nat) : ms_En := (ms_K E, ms_N E, ms_u2 (ms_R E) o k v, ms_Z E)
/-- cell o is there, of kind k -/
def ms_is (E : ms_En) (o k : Nat) : Prop := o < ms_Z E ∧ ms_K E o = k
/-- the cell that a reference leads to -/
def ms_at (E : ms_En) (o k : Nat) : Nat := (ms_R E o k).getD 0
/-- which fields of a kind hold references: 0 an int, 1 a reference, 2 the reference that moves -/
def ms_fT : Nat → List Nat := fun c => match c with
  | 0 => [0, 1, 1, 1, 1, 1, 1, 1, 1]
  | 1 => [1]
  | 2 => [0, 1, 0, 1, 1, 1, 1, 1, 1, 0, 1, 1, 1, 1, 1, 0]
  | 3 => [1, 0, 0, 1, 1, 0, 0, 0]
  | 4 => [1, 1, 1, 1, 0, 1, 1, 1, 1]
  | 5 => [0, 1, 1, 1, 1]
  | 6 => [0, 0, 0, 2, 0, 0]
  | 7 => [0, 0, 0, 1, 1, 1]
  | 8 => [1, 0, 1]
  | 9 => [0, 1, 1, 1, 1]
  | 10 => [1, 0, 0, 1, 1, 0, 0, 1, 1, 1, 1, 0, 0]
  | 11 => [0, 1, 0, 0, 0, 0, 0, 0, 1, 1, 1, 0, 0, 0, 0, 1, 1, 1, 1, 1, 1, 1, 1, 1, 0, 1, 1, 0, 1, 0, 1, 0, 0, 1]
  | _ => []
def ms_fv (L : Nat → Nat) (E : ms_En) (u : ms_St) (i c k : Nat) : Value := if (ms_fT c).getD k 0 = 0 then .int (ms_I u i k) else if (ms_fT c).getD k 0 = 1 then va_rf ((ms_R E i k).map L) else if ms_I u i k = 0 then .null else .ref (L (ms_I u i k).toNatClampNeg)
def ms_fs (L : Nat → Nat) (E : ms_En) (u : ms_St) (i c : Nat) : List Value := (List.range (ms_fT c).length).map (ms_fv L E u i c)
def ms_cell (cy : Nat → ClassId) (L : Nat → Nat) (E : ms_En) (u : ms_St) (i : Nat) : va_E :=
  if ms_K E i < 12 then .inr (ms_K E i, ms_fs L E u i (ms_K E i))
  else if ms_K E i = 14 then .inl (cy 14, ms_N E i, .inr (.inl (ms_J u i)))
  else if 16 ≤ ms_K E i then .inl (cy (if 17 ≤ ms_K E i then 17 else ms_K E i), ms_N E i, .inr (.inr (.inr (.inr (fun k => (ms_R E i k).map L)))))
  else .inl (cy (ms_K E i), ms_N E i, .inl (ms_I u i))
def ms_ws (cy : Nat → ClassId) (L : Nat → Nat) (E : ms_En) (u : ms_St) : va_W := (List.range (ms_Z E)).map (fun i => (L i, ms_cell cy L E u i))
def ms_ty (cy : Nat → ClassId) : List (ClassId × FieldType) := [(cy 12, .byte), (cy 13, .int), (cy 14, .long), (cy 15, .boolean), (cy 16, .object "CensusWalk$Town"), (cy 17, .array .int)]
/-- the heap holds the memory; no reference leads out of it -/
def ms_Cl (E : ms_En) (u : ms_St) : Prop := (∀ i k b, i < ms_Z E → ms_R E i k = some b → b < ms_Z E) ∧ ∀ i, ms_is E i 6 → ms_I u i 3 ≠ 0 → (ms_I u i 3).toNatClampNeg < ms_Z E
def ms_Wd (G : va_G) (cy : Nat → ClassId) (A : Nat → Prop) (L : Nat → Nat) (E : ms_En) (u : ms_St) (H : Heap) : Prop := va_P G vwCl (ms_ws cy L E u) H ∧ va_D A (ms_ws cy L E u) ∧ ms_Cl E u
theorem ms_ws_get {cy : Nat → ClassId} {L : Nat → Nat} {E : ms_En} {u : ms_St} {i : Nat} (h : i < ms_Z E) : (ms_ws cy L E u)[i]? = some (L i, ms_cell cy L E u i) := by simp [ms_ws, h]
theorem ms_ws_set {cy : Nat → ClassId} {L : Nat → Nat} {E E' : ms_En} {u u' : ms_St} {i : Nat} (hZ : ms_Z E' = ms_Z E) (hc : ∀ j, j < ms_Z E → j ≠ i → ms_cell cy L E' u' j = ms_cell cy L E u j) : (ms_ws cy L E u).set i (L i, ms_cell cy L E' u' i) = ms_ws cy L E' u' := by
  apply List.ext_getElem?
  intro j
  by_cases hj : j < ms_Z E
  · by_cases e : j = i
    · subst e
      rw [List.getElem?_set_self (by simp [ms_ws, hj]), ms_ws_get (by rw [hZ]; exact hj)]
    · rw [List.getElem?_set_ne (Ne.symm e), ms_ws_get hj, ms_ws_get (by rw [hZ]; exact hj), hc j hj e]
  · rw [List.getElem?_eq_none (by simp [ms_ws]; omega), List.getElem?_eq_none (by simp [ms_ws, hZ]; omega)]
section MSC
variable {cy : Nat → ClassId} {L : Nat → Nat} {E E' : ms_En} {u u' : ms_St}
theorem ms_cell_o {i c : Nat} (h : ms_K E i = c) (hc : c < 12) : ms_cell cy L E u i = .inr (c, ms_fs L E u i c) := by
  subst h; simp [ms_cell, hc]
theorem ms_cell_i {i c : Nat} (h : ms_K E i = c) (hc : c = 12 ∨ c = 13 ∨ c = 15) : ms_cell cy L E u i = .inl (cy c, ms_N E i, .inl (ms_I u i)) := by
  subst h
  unfold ms_cell
  rw [if_neg (by omega), if_neg (by omega), if_neg (by omega)]
theorem ms_cell_j {i : Nat} (h : ms_K E i = 14) : ms_cell cy L E u i = .inl (cy 14, ms_N E i, .inr (.inl (ms_J u i))) := by
  unfold ms_cell
  rw [if_neg (by omega), if_pos h]
theorem ms_cell_T {i : Nat} (h : ms_K E i = 16) : ms_cell cy L E u i = .inl (cy 16, ms_N E i, .inr (.inr (.inr (.inr (fun k => (ms_R E i k).map L))))) := by
  unfold ms_cell
  rw [h]
  rfl
theorem ms_cell_q {i c : Nat} (h : ms_K E i = c) (hc : 17 ≤ c) : ms_cell cy L E u i = .inl (cy 17, ms_N E i, .inr (.inr (.inr (.inr (fun k => (ms_R E i k).map L))))) := by
  subst h
  unfold ms_cell
  rw [if_neg (by omega), if_neg (by omega), if_pos (by omega), if_pos hc]
theorem ms_fs_get {i c k : Nat} (hk : k < (ms_fT c).length) : (ms_fs L E u i c)[k]? = some (ms_fv L E u i c k) := by simp [ms_fs, hk]
theorem ms_fv_I {i c k : Nat} (hf : (ms_fT c).getD k 0 = 0) : ms_fv L E u i c k = .int (ms_I u i k) := by unfold ms_fv; rw [if_pos hf]
theorem ms_fv_R {i c k : Nat} (hf : (ms_fT c).getD k 0 = 1) : ms_fv L E u i c k = va_rf ((ms_R E i k).map L) := by unfold ms_fv; rw [hf]; rfl
theorem ms_fv_M {i c k : Nat} (hf : (ms_fT c).getD k 0 = 2) (hnz : ms_I u i k ≠ 0) : ms_fv L E u i c k = .ref (L (ms_I u i k).toNatClampNeg) := by unfold ms_fv; rw [hf, if_neg (by decide), if_neg (by decide), if_neg hnz]
theorem ms_fs_set {i c k : Nat} {v : Value} (hv : ms_fv L E' u' i c k = v) (hn : ∀ j, j ≠ k → ms_fv L E' u' i c j = ms_fv L E u i c j) : (ms_fs L E u i c).set k v = ms_fs L E' u' i c := by
  apply List.ext_getElem?
  intro j
  by_cases hj : j < (ms_fT c).length
  · by_cases e : j = k
    · subst e
      rw [List.getElem?_set_self (by simp [ms_fs, hj]), ms_fs_get hj, hv]
    · rw [List.getElem?_set_ne (Ne.symm e), ms_fs_get hj, ms_fs_get hj, hn j e]
  · rw [List.getElem?_eq_none (by simp [ms_fs]; omega), List.getElem?_eq_none (by simp [ms_fs]; omega)]
theorem ms_sI_at {o k : Nat} {v : Int32} : ms_I (ms_sI u o k v) o k = v := by simp [ms_sI, ms_I, ms_u2]
theorem ms_sI_ne {o k j : Nat} {v : Int32} (h : j ≠ k) : ms_I (ms_sI u o k v) o j = ms_I u o j := by simp [ms_sI, ms_I, ms_u2, h]
theorem ms_fs_setI {i c k : Nat} {v : Int32} (hf : (ms_fT c).getD k 0 = 0) : (ms_fs L E u i c).set k (.int v) = ms_fs L E (ms_sI u i k v) i c :=
  ms_fs_set (by rw [ms_fv_I hf, ms_sI_at]) (fun j h => by unfold ms_fv; rw [ms_sI_ne h])
theorem ms_fs_setM {i c k b : Nat} (hf : (ms_fT c).getD k 0 = 2) (hb : b < 2 ^ 31) (hb0 : 0 < b) : (ms_fs L E u i c).set k (.ref (L b)) = ms_fs L E (ms_sI u i k (nI b)) i c :=
  ms_fs_set (by rw [ms_fv_M hf (by rw [ms_sI_at]; exact nI_ne0 hb0 hb), ms_sI_at, nI_clamp hb]) (fun j h => by unfold ms_fv; rw [ms_sI_ne h])
theorem ms_fs_setR {i c k : Nat} {v : Option Nat} (hf : (ms_fT c).getD k 0 = 1) : (ms_fs L E u i c).set k (va_rf (v.map L)) = ms_fs L (ms_sR E i k v) u i c :=
  ms_fs_set (by rw [ms_fv_R hf]; simp [ms_sR, ms_R, ms_u2]) (fun j h => by unfold ms_fv; simp [ms_sR, ms_R, ms_u2, h])
theorem ms_fs_ne {j c : Nat} (hI : ms_I u' j = ms_I u j) (hR : ms_R E' j = ms_R E j) : ms_fs L E' u' j c = ms_fs L E u j c := by
  unfold ms_fs ms_fv
  rw [hI, hR]
theorem ms_cell_ne {j : Nat} (hK : ms_K E' j = ms_K E j) (hN : ms_N E' j = ms_N E j) (hI : ms_I u' j = ms_I u j) (hR : ms_R E' j = ms_R E j) (hJ : ms_J u' j = ms_J u j) : ms_cell cy L E' u' j = ms_cell cy L E u j := by
  unfold ms_cell
  rw [hK, hN, hI, hR, hJ, ms_fs_ne hI hR]
theorem ms_u2_ne {α : Type} {f : Nat → Nat → α} {o k j : Nat} {v : α} (h : j ≠ o) : ms_u2 f o k v j = f j := by
  funext b
  simp [ms_u2, h]
theorem ms_u2_up {f : Nat → Nat → Int32} {o k : Nat} {v : Int32} : ms_u2 f o k v o = upd (f o) k v := by
  funext b
  simp [ms_u2, upd]
theorem ms_u2_upL {f : Nat → Nat → Int64} {o k : Nat} {v : Int64} : ms_u2 f o k v o = vp_updL (f o) k v := by
  funext b
  simp [ms_u2, vp_updL]
theorem ms_rw_ne {α : Type} {f : Nat → Nat → α} {o j : Nat} {g : Nat → α} (h : j ≠ o) : ms_rw f o g j = f j := by
  funext b
  simp [ms_rw, h]
theorem ms_rw_eq {α : Type} {f : Nat → Nat → α} {o : Nat} {g : Nat → α} : ms_rw f o g o = g := by
  funext b
  simp [ms_rw]
theorem ms_ws_sI {o k : Nat} {v : Int32} : (ms_ws cy L E u).set o (L o, ms_cell cy L E (ms_sI u o k v) o) = ms_ws cy L E (ms_sI u o k v) :=
  ms_ws_set rfl (fun _ _ h => ms_cell_ne rfl rfl (ms_u2_ne h) rfl rfl)
theorem ms_ws_sJ {o k : Nat} {v : Int64} : (ms_ws cy L E u).set o (L o, ms_cell cy L E (ms_sJ u o k v) o) = ms_ws cy L E (ms_sJ u o k v) :=
  ms_ws_set rfl (fun _ _ h => ms_cell_ne rfl rfl rfl rfl (ms_u2_ne h))
theorem ms_ws_sR {o k : Nat} {v : Option Nat} : (ms_ws cy L E u).set o (L o, ms_cell cy L (ms_sR E o k v) u o) = ms_ws cy L (ms_sR E o k v) u :=
  ms_ws_set rfl (fun _ _ h => ms_cell_ne rfl rfl rfl (ms_u2_ne h) rfl)
theorem ms_ws_sA {o : Nat} {g : Nat → Int32} : (ms_ws cy L E u).set o (L o, ms_cell cy L E (ms_sA u o g) o) = ms_ws cy L E (ms_sA u o g) :=
  ms_ws_set rfl (fun _ _ h => ms_cell_ne rfl rfl (ms_rw_ne h) rfl rfl)
theorem ms_Cl_sI {o k : Nat} {v : Int32} (h : ms_Cl E u) (hv : ms_is E o 6 → k = 3 → v.toNatClampNeg < ms_Z E) : ms_Cl E (ms_sI u o k v) := by
  refine ⟨h.1, fun i hi h0 => ?_⟩
  by_cases e : i = o ∧ 3 = k
  · obtain ⟨rfl, rfl⟩ := e
    rw [ms_sI_at]
    exact hv hi rfl
  · have : ms_I (ms_sI u o k v) i 3 = ms_I u i 3 := by simp [ms_sI, ms_I, ms_u2]; intro a b; exact absurd ⟨a, b⟩ e
    rw [this] at h0 ⊢
    exact h.2 i hi h0
theorem ms_Cl_kd {o k c : Nat} {v : Int32} (h : ms_Cl E u) (ho : ms_is E o c) (hc : c ≠ 6 ∨ k ≠ 3) : ms_Cl E (ms_sI u o k v) :=
  ms_Cl_sI h (fun h6 h3 => by rcases hc with q | q; exact absurd (ho.2.symm.trans h6.2) q; exact absurd h3 q)
theorem ms_Cl_sA {o c : Nat} {g : Nat → Int32} (h : ms_Cl E u) (ho : ms_is E o c) (hc : c ≠ 6) : ms_Cl E (ms_sA u o g) := by
  refine ⟨h.1, fun i hi h0 => ?_⟩
  have hne : i ≠ o := fun q => hc (by rw [← ho.2, ← q]; exact hi.2)
  have : ms_I (ms_sA u o g) i 3 = ms_I u i 3 := by simp [ms_sA, ms_I, ms_rw, hne]
  rw [this] at h0 ⊢
  exact h.2 i hi h0
theorem ms_Cl_sR {o k : Nat} {v : Option Nat} (h : ms_Cl E u) (hv : ∀ b, v = some b → b < ms_Z E) : ms_Cl (ms_sR E o k v) u := by
  refine ⟨fun i j b hi hb => ?_, h.2⟩
  by_cases e : i = o ∧ j = k
  · exact hv b (by simpa [ms_sR, ms_R, ms_u2, e] using hb)
  · exact h.1 i j b hi (by simpa [ms_sR, ms_R, ms_u2, e] using hb)
end MSC
/-- the made world: what each field of a kind leads to (kind, length of an array) -/
def ms_fK : Nat → Nat → Nat × Nat := fun c k => match c, k with
  | 0, 1 => (13, 16)
  | 0, 2 => (13, 16)
  | 0, 3 => (13, 16)
  | 0, 4 => (13, 16)
  | 0, 5 => (13, 16)
  | 0, 6 => (13, 16)
  | 0, 7 => (15, 16)
  | 0, 8 => (13, 64)
  | 1, 0 => (13, 100)
  | 2, 1 => (13, 8)
  | 2, 3 => (13, 8)
  | 2, 4 => (13, 8)
  | 2, 5 => (13, 8)
  | 2, 6 => (13, 8)
  | 2, 7 => (13, 64)
  | 2, 8 => (13, 8)
  | 2, 10 => (13, 2048)
  | 2, 11 => (13, 2048)
  | 2, 12 => (13, 768)
  | 2, 13 => (13, 3)
  | 2, 14 => (13, 3)
  | 3, 0 => (7, 0)
  | 3, 3 => (6, 0)
  | 3, 4 => (8, 0)
  | 4, 0 => (13, 36)
  | 4, 1 => (13, 36)
  | 4, 2 => (13, 3)
  | 4, 3 => (13, 16)
  | 4, 5 => (13, 16)
  | 4, 6 => (13, 3)
  | 4, 7 => (13, 3)
  | 4, 8 => (13, 3)
  | 5, 1 => (13, 12)
  | 5, 2 => (13, 12)
  | 5, 3 => (13, 12)
  | 5, 4 => (15, 12)
  | 7, 3 => (5, 0)
  | 7, 4 => (0, 0)
  | 7, 5 => (9, 0)
  | 8, 0 => (13, 900)
  | 8, 2 => (13, 16)
  | 9, 1 => (13, 3)
  | 9, 2 => (13, 3)
  | 9, 3 => (13, 3)
  | 9, 4 => (13, 36)
  | 10, 0 => (12, 900)
  | 10, 3 => (7, 0)
  | 10, 4 => (16, 8)
  | 10, 7 => (3, 0)
  | 10, 8 => (1, 0)
  | 10, 9 => (4, 0)
  | 10, 10 => (2, 0)
  | 11, 1 => (13, 900)
  | 11, 8 => (13, 1613)
  | 11, 9 => (13, 1613)
  | 11, 10 => (17, 8)
  | 11, 15 => (18, 10)
  | 11, 16 => (14, 1400)
  | 11, 17 => (13, 3)
  | 11, 18 => (13, 3)
  | 11, 19 => (13, 3)
  | 11, 20 => (13, 36)
  | 11, 21 => (13, 36)
  | 11, 22 => (13, 16)
  | 11, 23 => (13, 16)
  | 11, 25 => (19, 256)
  | 11, 26 => (13, 8)
  | 11, 28 => (13, 8)
  | 11, 30 => (20, 3)
  | 11, 33 => (13, 3)
  | _, _ => (99, 0)
def ms_rl : Nat → Nat := fun k => match k with | 17 => 1613 | 18 => 10 | 19 => 8 | _ => 256
/-- E is made: every reference of every object leads to a cell of its kind, every row is there -/
def ms_WT (E : ms_En) : Prop := (∀ o c k, ms_is E o c → (ms_fK c k).1 < 99 → ms_R E o k = some (ms_at E o k) ∧ ms_is E (ms_at E o k) (ms_fK c k).1 ∧ (12 ≤ (ms_fK c k).1 → ms_N E (ms_at E o k) = (ms_fK c k).2))
  ∧ (∀ o i, ms_is E o 16 → i < ms_N E o → ms_R E o i = some (ms_at E o i) ∧ ms_is E (ms_at E o i) 7) ∧ ∀ o i k, ms_is E o k → 17 ≤ k → k ≤ 20 → i < ms_N E o → ms_R E o i = some (ms_at E o i) ∧ ms_is E (ms_at E o i) 13 ∧ ms_N E (ms_at E o i) = ms_rl k
