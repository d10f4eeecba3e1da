/-- the room of a method that calls itself: d calls more may stand open, k frames above -/
def ms_rm (d k : Nat) : Room := { frames := 4 * d + 20 + k, cells := 0, slots := 0, locals := 240 * d + 1000 + 60 * k }
theorem ms_rm_succ (d : Nat) : ms_rm (d + 1) 0 = ms_rm d 4 := by
  unfold ms_rm
  congr 1 <;> omega
/-! ===== CONTRACTS over the memory, and how a method is entered, left and called ===== -/
def ms_B (G : va_G) (cy : Nat → ClassId) (L : Nat → Nat) (E : ms_En) (u : ms_St) (sz : Nat) (U : State) : Prop := U.heap.size = sz ∧ ms_Wd G cy (fun _ => True) L E u U.heap ∧ va_K G vwCl (ms_ty cy) U ∧ ms_F cy (va_A (ms_ws cy L E u) sz) U
def ms_E (G : va_G) (cy : Nat → ClassId) (A : Nat → Prop) (L : Nat → Nat) (E : ms_En) (u : ms_St) (t : State) : Prop := ms_Wd G cy A L E u t.heap ∧ va_K G vwCl (ms_ty cy) t
def ms_MetI (l : Launch) (y : MethodName) (ws : List Cond) (rm : Room) (G : va_G) (cy : Nat → ClassId) (L : Nat → Nat) (E : ms_En) (av : List Value) (u : ms_St) (post : Int32 → ms_St → Prop) (mc ms : Nat) : Prop :=
  ∀ sz : Nat, Met l y ws rm (va_Pc av (ms_B G cy L E u sz)) (va_Qi post (ms_E G cy (va_A (ms_ws cy L E u) sz) L E) (va_A (ms_ws cy L E u) sz)) mc ms (va_A (ms_ws cy L E u) sz)
def ms_MetL (l : Launch) (y : MethodName) (ws : List Cond) (rm : Room) (G : va_G) (cy : Nat → ClassId) (L : Nat → Nat) (E : ms_En) (av : List Value) (u : ms_St) (post : Int64 → ms_St → Prop) (mc ms : Nat) : Prop :=
  ∀ sz : Nat, Met l y ws rm (va_Pc av (ms_B G cy L E u sz)) (va_Ql post (ms_E G cy (va_A (ms_ws cy L E u) sz) L E) (va_A (ms_ws cy L E u) sz)) mc ms (va_A (ms_ws cy L E u) sz)
def ms_MetV (l : Launch) (y : MethodName) (ws : List Cond) (rm : Room) (G : va_G) (cy : Nat → ClassId) (L : Nat → Nat) (E : ms_En) (av : List Value) (u : ms_St) (post : ms_St → Prop) (mc ms : Nat) : Prop :=
  ∀ sz : Nat, Met l y ws rm (va_Pc av (ms_B G cy L E u sz)) (va_Qv post (ms_E G cy (va_A (ms_ws cy L E u) sz) L E) (va_A (ms_ws cy L E u) sz)) mc ms (va_A (ms_ws cy L E u) sz)
def ms_QI (below : List Frame) (args : Array Value) (s : State) (G : va_G) (cy : Nat → ClassId) (L : Nat → Nat) (E : ms_En) (A : Nat → Prop) (post : Int32 → ms_St → Prop) (mc ms : Nat) : State → Prop := MQ below (va_Qi post (ms_E G cy A L E) A) args s mc ms A
def ms_QL (below : List Frame) (args : Array Value) (s : State) (G : va_G) (cy : Nat → ClassId) (L : Nat → Nat) (E : ms_En) (A : Nat → Prop) (post : Int64 → ms_St → Prop) (mc ms : Nat) : State → Prop := MQ below (va_Ql post (ms_E G cy A L E) A) args s mc ms A
def ms_QV (below : List Frame) (args : Array Value) (s : State) (G : va_G) (cy : Nat → ClassId) (L : Nat → Nat) (E : ms_En) (A : Nat → Prop) (post : ms_St → Prop) (mc ms : Nat) : State → Prop := MQ below (va_Qv post (ms_E G cy A L E) A) args s mc ms A
theorem ms_lwg {w : Cond} (h : w ∈ lw_g) : (w.onTables && w.keeps) = true ∨ ∃ ty, w = .arrayClass ty := good_of_word (List.mem_filter.mp h).2
theorem ms_goodIn {c0 c1 : Cond} (pre : List Cond) (hp : ∀ w ∈ pre, w ∈ lw_g) (h1 : c1 ∈ lw_g) : GoodIn (c0 :: lw_g) (pre ++ c1 :: lw_g) := by
  intro w h
  rcases List.mem_append.mp h with h | h
  · exact ⟨List.mem_cons_of_mem _ (hp w h), ms_lwg (hp w h)⟩
  · rcases List.mem_cons.mp h with h | h
    · subst h
      exact ⟨List.mem_cons_of_mem _ h1, ms_lwg h1⟩
    · exact ⟨List.mem_cons_of_mem _ h, ms_lwg h⟩
theorem ms_p4 {a b c d : Cond} (ha : a ∈ lw_g) (hb : b ∈ lw_g) (hc : c ∈ lw_g) (hd : d ∈ lw_g) : ∀ w ∈ [a, b, c, d], w ∈ lw_g := by
  intro w h
  simp only [List.mem_cons, List.not_mem_nil, or_false] at h
  rcases h with rfl | rfl | rfl | rfl <;> assumption
theorem ms_p3 {a b c : Cond} (ha : a ∈ lw_g) (hb : b ∈ lw_g) (hc : c ∈ lw_g) : ∀ w ∈ [a, b, c], w ∈ lw_g := by
  intro w h
  simp only [List.mem_cons, List.not_mem_nil, or_false] at h
  rcases h with rfl | rfl | rfl <;> assumption
theorem ms_blind {av : List Value} {G : va_G} {cy : Nat → ClassId} {L : Nat → Nat} {E : ms_En} {u : ms_St} {sz : Nat} : FrameBlind (va_Pc av (ms_B G cy L E u sz)) := fun a U g mk q => by
  obtain ⟨q0, q1, q2, q3, q4⟩ := q
  exact ⟨q0, q1, q2, va_K.moved (u := U) (U := U.calling g mk a) (Vm.Alike.refl U.vm) q3, ms_F_same (u := U) (U := U.calling g mk a) rfl rfl q4⟩
section ATB
variable {p : Program} {l : Launch} {e : Env} {R : Room} {s : State} {m : MethodId} {args : Array Value} {below : List Frame} {meth : Method} {c : Code} {nL : Nat} {G : va_G} {cy : Nat → ClassId} {A : Nat → Prop} {L : Nat → Nat} {cells slots : Nat} {Q : State → Prop} {cc : ByteArray} {c0 : Cond} {own : String} {E : ms_En} {u : ms_St} {pc q : Nat} {lv lv' : List (Nat × Value)} {st : List Value}
theorem ms_free (C : ms_Cx p m c cc nL s args c0 own G cy A) {H : Heap} {locs : List Loc} (hw : ms_Wd G cy A L E u H) (hS : va_S A s.heap H locs) : ∀ q, va_A (ms_ws cy L E u) H.size q → A q := by
  intro q h
  rcases h with ⟨k, e9, h⟩ | h
  · exact hw.2.1.2 k _ h
  · exact C.2.2.1 q (Nat.le_trans hS.1 h)
theorem ms_into (C : ms_Cx p m c cc nL s args c0 own G cy A) {H : Heap} {locs : List Loc} (hw : ms_Wd G cy A L E u H) (hS : va_S A s.heap H locs) (av : List Value) : ∀ U : State, U.heap = H → s.WarmedH U.vm → va_Pc av (ms_B G cy L E u H.size) av.toArray U :=
  fun U hU hW => ⟨rfl, by rw [hU], by rw [hU]; exact ⟨hw.1, hw.2.1.weaken (fun _ _ _ _ => trivial), hw.2.2⟩, va_K.moved hW.alike C.2.1, ms_F_warm hW (ms_free C hw hS) (fun q h1 h2 => by rw [hU]; exact hS.2.1 q h1 h2) C.2.2.2⟩
theorem ms_back (C : ms_Cx p m c cc nL s args c0 own G cy A) {H H1 : Heap} {locs : List Loc} {t : State} {u' : ms_St} (hw : ms_Wd G cy A L E u H) (hS : va_S A s.heap H locs) (ht : t.heap = H1) (hB : ms_E G cy (va_A (ms_ws cy L E u) H.size) L E u' t) : ms_Wd G cy A L E u' H1 :=
  ⟨by rw [← ht]; exact hB.1.1, hB.1.2.1.weaken (fun _ q _ h => ms_free C hw hS q.1 h), hB.1.2.2⟩
theorem ms_rc (C : ms_Cx p m c cc nL s args c0 own G cy A) {H : Heap} (hw : ms_Wd G cy A L E u H) {o ci N : Nat} {Cn : String} {T : u_T} (ho : ms_is E o ci) (hc : vwCl[ci]? = some (Cn, T, N)) (hci : ci < 12) : ∃ cell : Cell, H[L o]? = some cell ∧ cell.vm.isStatics = false ∧ s.vm.findClass Cn = some cell.cls :=
  va_recv (q0 := o) C.2.1 hw.1 hc (by rw [ms_ws_get ho.1, ms_cell_o ho.2 hci])
theorem ms_enterI {y : MethodName} {rm : Room} {av : List Value} {post : Int32 → ms_St → Prop} {mc ms maxL : Nat} {cc2 : ByteArray} {ret : Option FieldType} (hy : plainName y.cls = true) (hlen : (lg_sl av).length ≤ maxL) (hlv : lv_args 0 av = lv)
    (body : ∀ (p : Program) (e : Env) (s : State) (m : MethodId) (args : Array Value) (below : List Frame) (meth : Method) (c : Code) (A : Nat → Prop), ms_Cx p m c cc2 maxL s args (Cond.code y cc2 maxL ret) y.cls G cy A → meth.sig.returnType = ret → meth.locks = false →
      ms_At p l e rm s m args below meth c maxL G cy A L 0 0 (ms_QI below args s G cy L E A post mc ms) E u 0 lv []) : ms_MetI l y (Cond.code y cc2 maxL ret :: lw_g) rm G cy L E av u post mc ms := by
  intro sz
  refine Met.ofW (cc := cc2) (maxL := maxL) (ret := ret) hy rfl ?_
  intro p e s m args below meth c s₁ B hml hv
  obtain ⟨rfl, hsz, hw, hK, hF⟩ := hv
  have hts := atoms_spec (ws := Cond.code y cc2 maxL ret :: lw_g) B.pre
  have hown : s.vm.findClass y.cls = some m.cls := findClass_of_methodNamed B.named
  subst hsz
  have hl := lv_entry av (n := maxL) hlen
  rw [lg_entry_eq]
  exact body p e s m _ below meth c _ ⟨⟨B.exec, B.bytes, hml, hown, hts⟩, hK, fun q h => Or.inr h, hF⟩ B.returns B.notSynchronized s.heap [] _ ⟨hw.1, hw.2.1.self, hw.2.2⟩ va_S.rf (by rw [← hlv]; exact hl)
/-- invokevirtual -/
theorem a_callVI (C : ms_Cx p m c cc nL s args c0 own G cy A) {y : MethodName} {rm : Room} {post : Int32 → ms_St → Prop} {mc ms maxL index o ci N : Nat} {cc2 : ByteArray} {ret : Option FieldType} {As st0 : List Value} {Cn : String} {T : u_T} (hM : ms_MetI l y (Cond.code y cc2 maxL ret :: lw_g) rm G cy L E (.ref (L o) :: As) u post mc ms) (ho : ms_is E o ci) (hc : vwCl[ci]? = some (Cn, T, N)) (hci : ci < 12)
    (h1 : Cond.methodLink own index y ∈ lw_g) (h2 : Cond.instanceMethod y ∈ lw_g) (h3 : Cond.selects Cn y y ∈ lw_g) (h4 : Cond.initialized Cn ∈ lw_g) (h5 : Cond.code y cc2 maxL ret ∈ lw_g) (hrc : rm.cells = mc) (hrs : rm.slots = ms) (hd : y.cls = Cn ∧ y.cls ≠ "java/lang/invoke/MethodHandle" ∧ y.cls ≠ "java/lang/invoke/VarHandle" ∧ (parseMethodDescriptor y.desc).map (fun d => d.parameters.length) = some As.length) (hR : rm.frames + 1 ≤ R.frames ∧ 8 + (maxL + 11) + rm.locals ≤ R.locals)
    (hdg : decode cc pc = .ok (.invokevirtual index, 3)) (hst : st0 = As.reverse ++ .ref (L o) :: st) (hW : (st.map fun v => v.category).sum ≤ 8) (hf : cells + mc ≤ R.cells ∧ slots + ms ≤ R.slots) (hq : pc + 3 = q) (kk : ∀ (r : Int32) (u' : ms_St), post r u' → ms_At p l e R s m args below meth c nL G cy A L (cells + mc) (slots + ms) Q E u' (q) lv (.int r :: st)) : ms_At p l e R s m args below meth c nL G cy A L cells slots Q E u (pc) lv (st0) := by
  subst hq
  subst hst
  intro H locs ls hw hS hl
  exact va_calli (va_runV (As := As) (rest := st) C.1 (hM H.size) (cwV As.length C.1.2.2.2.2 (ms_goodIn [.methodLink own index y, .instanceMethod y, .selects Cn y y, .initialized Cn] (ms_p4 h1 h2 h3 h4) h5) rfl hrc hrs hd hR) ⟨ms_blind, ms_rc C hw ho hc hci, ms_into C hw hS (.ref (L o) :: As)⟩ rfl rfl hl.1 rfl (lv_room hW) hdg hf) hS (fun q _ h => ms_free C hw hS q h) (ms_free C hw hS) (fun r u' t H1 locs1 ht hvm hw9 hB hz1 hk1 hS1 => kk r u' hw9 H1 locs1 ls (ms_back C hw hS ht hB) hS1 hl)
/-- invokevirtual on a String constant -/
theorem a_callWI (C : ms_Cx p m c cc nL s args c0 own G cy A) {y : MethodName} {rm : Room} {post : Int32 → ms_St → Prop} {mc ms maxL index w : Nat} {cc2 : ByteArray} {ret : Option FieldType} {As st0 : List Value} (hM : ms_MetI l y (Cond.code y cc2 maxL ret :: lw_g) rm G cy L E (.ref (cy (100 + w)) :: As) u post mc ms) (hw33 : w < 33)
    (h1 : Cond.methodLink own index y ∈ lw_g) (h2 : Cond.instanceMethod y ∈ lw_g) (h3 : Cond.selects "java/lang/String" y y ∈ lw_g) (h4 : Cond.initialized "java/lang/String" ∈ lw_g) (h5 : Cond.code y cc2 maxL ret ∈ lw_g) (hrc : rm.cells = mc) (hrs : rm.slots = ms) (hd : y.cls = "java/lang/String" ∧ y.cls ≠ "java/lang/invoke/MethodHandle" ∧ y.cls ≠ "java/lang/invoke/VarHandle" ∧ (parseMethodDescriptor y.desc).map (fun d => d.parameters.length) = some As.length) (hR : rm.frames + 1 ≤ R.frames ∧ 8 + (maxL + 11) + rm.locals ≤ R.locals)
    (hdg : decode cc pc = .ok (.invokevirtual index, 3)) (hst : st0 = As.reverse ++ .ref (cy (100 + w)) :: st) (hW : (st.map fun v => v.category).sum ≤ 8) (hf : cells + mc ≤ R.cells ∧ slots + ms ≤ R.slots) (hq : pc + 3 = q) (kk : ∀ (r : Int32) (u' : ms_St), post r u' → ms_At p l e R s m args below meth c nL G cy A L (cells + mc) (slots + ms) Q E u' (q) lv (.int r :: st)) : ms_At p l e R s m args below meth c nL G cy A L cells slots Q E u (pc) lv (st0) := by
  subst hq
  subst hst
  intro H locs ls hw hS hl
  obtain ⟨x, -, g, -⟩ := ms_F_str C.2.2.2 hw33
  exact va_calli (va_runV (As := As) (rest := st) C.1 (hM H.size) (cwV As.length C.1.2.2.2.2 (ms_goodIn [.methodLink own index y, .instanceMethod y, .selects "java/lang/String" y y, .initialized "java/lang/String"] (ms_p4 h1 h2 h3 h4) h5) rfl hrc hrs hd hR) ⟨ms_blind, va_Orecv g.2.1 hS, ms_into C hw hS (.ref (cy (100 + w)) :: As)⟩ rfl rfl hl.1 rfl (lv_room hW) hdg hf) hS (fun q _ h => ms_free C hw hS q h) (ms_free C hw hS) (fun r u' t H1 locs1 ht hvm hw9 hB hz1 hk1 hS1 => kk r u' hw9 H1 locs1 ls (ms_back C hw hS ht hB) hS1 hl)
/-- invokestatic -/
theorem a_callSI (C : ms_Cx p m c cc nL s args c0 own G cy A) {y : MethodName} {rm : Room} {post : Int32 → ms_St → Prop} {mc ms maxL index : Nat} {cc2 : ByteArray} {ret : Option FieldType} {As st0 : List Value} (hM : ms_MetI l y (Cond.code y cc2 maxL ret :: lw_g) rm G cy L E As u post mc ms)
    (h1 : Cond.methodLink own index y ∈ lw_g) (h2 : Cond.static y ∈ lw_g) (h4 : Cond.initialized y.cls ∈ lw_g) (h5 : Cond.code y cc2 maxL ret ∈ lw_g) (hrc : rm.cells = mc) (hrs : rm.slots = ms) (hd : y.cls ≠ "java/lang/invoke/MethodHandle" ∧ y.cls ≠ "java/lang/invoke/VarHandle" ∧ (parseMethodDescriptor y.desc).map (fun d => d.parameters.length) = some As.length) (hR : rm.frames + 1 ≤ R.frames ∧ 8 + (maxL + 11) + rm.locals ≤ R.locals)
    (hdg : decode cc pc = .ok (.invokestatic index, 3)) (hst : st0 = As.reverse ++ st) (hW : (st.map fun v => v.category).sum ≤ 8) (hf : cells + mc ≤ R.cells ∧ slots + ms ≤ R.slots) (hq : pc + 3 = q) (kk : ∀ (r : Int32) (u' : ms_St), post r u' → ms_At p l e R s m args below meth c nL G cy A L (cells + mc) (slots + ms) Q E u' (q) lv (.int r :: st)) : ms_At p l e R s m args below meth c nL G cy A L cells slots Q E u (pc) lv (st0) := by
  subst hq
  subst hst
  intro H locs ls hw hS hl
  exact va_calli (va_runS (As := As) (rest := st) C.1 (hM H.size) (va_cwS As.length C.1.2.2.2.2 (ms_goodIn [.methodLink own index y, .static y, .initialized y.cls] (ms_p3 h1 h2 h4) h5) rfl hrc hrs hd hR) ⟨ms_blind, ms_into C hw hS As⟩ rfl rfl hl.1 rfl (lv_room hW) hdg hf) hS (fun q _ h => ms_free C hw hS q h) (ms_free C hw hS) (fun r u' t H1 locs1 ht hvm hw9 hB hz1 hk1 hS1 => kk r u' hw9 H1 locs1 ls (ms_back C hw hS ht hB) hS1 hl)
/-- invokestatic of a nest mate's private method -/
theorem a_callNI (C : ms_Cx p m c cc nL s args c0 own G cy A) {y : MethodName} {rm : Room} {post : Int32 → ms_St → Prop} {mc ms maxL index : Nat} {cc2 : ByteArray} {ret : Option FieldType} {As st0 : List Value} {host : String} (hM : ms_MetI l y (Cond.code y cc2 maxL ret :: lw_g) rm G cy L E As u post mc ms)
    (h1 : (own, index, y, host) ∈ ms_nests) (h2 : Cond.static y ∈ lw_g) (h4 : Cond.initialized y.cls ∈ lw_g) (h5 : Cond.code y cc2 maxL ret ∈ lw_g) (hrc : rm.cells = mc) (hrs : rm.slots = ms) (hd : y.cls ≠ "java/lang/invoke/MethodHandle" ∧ y.cls ≠ "java/lang/invoke/VarHandle" ∧ (parseMethodDescriptor y.desc).map (fun d => d.parameters.length) = some As.length) (hR : rm.frames + 1 ≤ R.frames ∧ 8 + (maxL + 11) + rm.locals ≤ R.locals)
    (hdg : decode cc pc = .ok (.invokestatic index, 3)) (hst : st0 = As.reverse ++ st) (hW : (st.map fun v => v.category).sum ≤ 8) (hf : cells + mc ≤ R.cells ∧ slots + ms ≤ R.slots) (hq : pc + 3 = q) (kk : ∀ (r : Int32) (u' : ms_St), post r u' → ms_At p l e R s m args below meth c nL G cy A L (cells + mc) (slots + ms) Q E u' (q) lv (.int r :: st)) : ms_At p l e R s m args below meth c nL G cy A L cells slots Q E u (pc) lv (st0) := by
  subst hq
  subst hst
  intro H locs ls hw hS hl
  exact va_calli (va_runSN (As := As) (rest := st) C.1 (hM H.size) ⟨va_cnB As.length C.1.2.2.2.2 (ms_goodIn [] (fun _ h => absurd h List.not_mem_nil) h5) rfl hrc hrs (C.2.2.2.1 _ h1) (C.1.2.2.2.2 _ (List.mem_cons_of_mem _ h4)) hd hR, C.1.2.2.2.2 _ (List.mem_cons_of_mem _ h2), trivial⟩ ⟨ms_blind, ms_into C hw hS As⟩ rfl rfl hl.1 rfl (lv_room hW) hdg hf) hS (fun q _ h => ms_free C hw hS q h) (ms_free C hw hS) (fun r u' t H1 locs1 ht hvm hw9 hB hz1 hk1 hS1 => kk r u' hw9 H1 locs1 ls (ms_back C hw hS ht hB) hS1 hl)
theorem ms_enterL {y : MethodName} {rm : Room} {av : List Value} {post : Int64 → ms_St → Prop} {mc ms maxL : Nat} {cc2 : ByteArray} {ret : Option FieldType} (hy : plainName y.cls = true) (hlen : (lg_sl av).length ≤ maxL) (hlv : lv_args 0 av = lv)
    (body : ∀ (p : Program) (e : Env) (s : State) (m : MethodId) (args : Array Value) (below : List Frame) (meth : Method) (c : Code) (A : Nat → Prop), ms_Cx p m c cc2 maxL s args (Cond.code y cc2 maxL ret) y.cls G cy A → meth.sig.returnType = ret → meth.locks = false →
      ms_At p l e rm s m args below meth c maxL G cy A L 0 0 (ms_QL below args s G cy L E A post mc ms) E u 0 lv []) : ms_MetL l y (Cond.code y cc2 maxL ret :: lw_g) rm G cy L E av u post mc ms := by
  intro sz
  refine Met.ofW (cc := cc2) (maxL := maxL) (ret := ret) hy rfl ?_
  intro p e s m args below meth c s₁ B hml hv
  obtain ⟨rfl, hsz, hw, hK, hF⟩ := hv
  have hts := atoms_spec (ws := Cond.code y cc2 maxL ret :: lw_g) B.pre
  have hown : s.vm.findClass y.cls = some m.cls := findClass_of_methodNamed B.named
  subst hsz
  have hl := lv_entry av (n := maxL) hlen
  rw [lg_entry_eq]
  exact body p e s m _ below meth c _ ⟨⟨B.exec, B.bytes, hml, hown, hts⟩, hK, fun q h => Or.inr h, hF⟩ B.returns B.notSynchronized s.heap [] _ ⟨hw.1, hw.2.1.self, hw.2.2⟩ va_S.rf (by rw [← hlv]; exact hl)
/-- invokevirtual -/
theorem a_callVL (C : ms_Cx p m c cc nL s args c0 own G cy A) {y : MethodName} {rm : Room} {post : Int64 → ms_St → Prop} {mc ms maxL index o ci N : Nat} {cc2 : ByteArray} {ret : Option FieldType} {As st0 : List Value} {Cn : String} {T : u_T} (hM : ms_MetL l y (Cond.code y cc2 maxL ret :: lw_g) rm G cy L E (.ref (L o) :: As) u post mc ms) (ho : ms_is E o ci) (hc : vwCl[ci]? = some (Cn, T, N)) (hci : ci < 12)
    (h1 : Cond.methodLink own index y ∈ lw_g) (h2 : Cond.instanceMethod y ∈ lw_g) (h3 : Cond.selects Cn y y ∈ lw_g) (h4 : Cond.initialized Cn ∈ lw_g) (h5 : Cond.code y cc2 maxL ret ∈ lw_g) (hrc : rm.cells = mc) (hrs : rm.slots = ms) (hd : y.cls = Cn ∧ y.cls ≠ "java/lang/invoke/MethodHandle" ∧ y.cls ≠ "java/lang/invoke/VarHandle" ∧ (parseMethodDescriptor y.desc).map (fun d => d.parameters.length) = some As.length) (hR : rm.frames + 1 ≤ R.frames ∧ 8 + (maxL + 11) + rm.locals ≤ R.locals)
    (hdg : decode cc pc = .ok (.invokevirtual index, 3)) (hst : st0 = As.reverse ++ .ref (L o) :: st) (hW : (st.map fun v => v.category).sum ≤ 8) (hf : cells + mc ≤ R.cells ∧ slots + ms ≤ R.slots) (hq : pc + 3 = q) (kk : ∀ (r : Int64) (u' : ms_St), post r u' → ms_At p l e R s m args below meth c nL G cy A L (cells + mc) (slots + ms) Q E u' (q) lv (.long r :: st)) : ms_At p l e R s m args below meth c nL G cy A L cells slots Q E u (pc) lv (st0) := by
  subst hq
  subst hst
  intro H locs ls hw hS hl
  exact va_calll (va_runV (As := As) (rest := st) C.1 (hM H.size) (cwV As.length C.1.2.2.2.2 (ms_goodIn [.methodLink own index y, .instanceMethod y, .selects Cn y y, .initialized Cn] (ms_p4 h1 h2 h3 h4) h5) rfl hrc hrs hd hR) ⟨ms_blind, ms_rc C hw ho hc hci, ms_into C hw hS (.ref (L o) :: As)⟩ rfl rfl hl.1 rfl (lv_room hW) hdg hf) hS (fun q _ h => ms_free C hw hS q h) (ms_free C hw hS) (fun r u' t H1 locs1 ht hvm hw9 hB hz1 hk1 hS1 => kk r u' hw9 H1 locs1 ls (ms_back C hw hS ht hB) hS1 hl)
/-- invokevirtual on a String constant -/
theorem a_callWL (C : ms_Cx p m c cc nL s args c0 own G cy A) {y : MethodName} {rm : Room} {post : Int64 → ms_St → Prop} {mc ms maxL index w : Nat} {cc2 : ByteArray} {ret : Option FieldType} {As st0 : List Value} (hM : ms_MetL l y (Cond.code y cc2 maxL ret :: lw_g) rm G cy L E (.ref (cy (100 + w)) :: As) u post mc ms) (hw33 : w < 33)
    (h1 : Cond.methodLink own index y ∈ lw_g) (h2 : Cond.instanceMethod y ∈ lw_g) (h3 : Cond.selects "java/lang/String" y y ∈ lw_g) (h4 : Cond.initialized "java/lang/String" ∈ lw_g) (h5 : Cond.code y cc2 maxL ret ∈ lw_g) (hrc : rm.cells = mc) (hrs : rm.slots = ms) (hd : y.cls = "java/lang/String" ∧ y.cls ≠ "java/lang/invoke/MethodHandle" ∧ y.cls ≠ "java/lang/invoke/VarHandle" ∧ (parseMethodDescriptor y.desc).map (fun d => d.parameters.length) = some As.length) (hR : rm.frames + 1 ≤ R.frames ∧ 8 + (maxL + 11) + rm.locals ≤ R.locals)
    (hdg : decode cc pc = .ok (.invokevirtual index, 3)) (hst : st0 = As.reverse ++ .ref (cy (100 + w)) :: st) (hW : (st.map fun v => v.category).sum ≤ 8) (hf : cells + mc ≤ R.cells ∧ slots + ms ≤ R.slots) (hq : pc + 3 = q) (kk : ∀ (r : Int64) (u' : ms_St), post r u' → ms_At p l e R s m args below meth c nL G cy A L (cells + mc) (slots + ms) Q E u' (q) lv (.long r :: st)) : ms_At p l e R s m args below meth c nL G cy A L cells slots Q E u (pc) lv (st0) := by
  subst hq
  subst hst
  intro H locs ls hw hS hl
  obtain ⟨x, -, g, -⟩ := ms_F_str C.2.2.2 hw33
  exact va_calll (va_runV (As := As) (rest := st) C.1 (hM H.size) (cwV As.length C.1.2.2.2.2 (ms_goodIn [.methodLink own index y, .instanceMethod y, .selects "java/lang/String" y y, .initialized "java/lang/String"] (ms_p4 h1 h2 h3 h4) h5) rfl hrc hrs hd hR) ⟨ms_blind, va_Orecv g.2.1 hS, ms_into C hw hS (.ref (cy (100 + w)) :: As)⟩ rfl rfl hl.1 rfl (lv_room hW) hdg hf) hS (fun q _ h => ms_free C hw hS q h) (ms_free C hw hS) (fun r u' t H1 locs1 ht hvm hw9 hB hz1 hk1 hS1 => kk r u' hw9 H1 locs1 ls (ms_back C hw hS ht hB) hS1 hl)
/-- invokestatic -/
theorem a_callSL (C : ms_Cx p m c cc nL s args c0 own G cy A) {y : MethodName} {rm : Room} {post : Int64 → ms_St → Prop} {mc ms maxL index : Nat} {cc2 : ByteArray} {ret : Option FieldType} {As st0 : List Value} (hM : ms_MetL l y (Cond.code y cc2 maxL ret :: lw_g) rm G cy L E As u post mc ms)
    (h1 : Cond.methodLink own index y ∈ lw_g) (h2 : Cond.static y ∈ lw_g) (h4 : Cond.initialized y.cls ∈ lw_g) (h5 : Cond.code y cc2 maxL ret ∈ lw_g) (hrc : rm.cells = mc) (hrs : rm.slots = ms) (hd : y.cls ≠ "java/lang/invoke/MethodHandle" ∧ y.cls ≠ "java/lang/invoke/VarHandle" ∧ (parseMethodDescriptor y.desc).map (fun d => d.parameters.length) = some As.length) (hR : rm.frames + 1 ≤ R.frames ∧ 8 + (maxL + 11) + rm.locals ≤ R.locals)
    (hdg : decode cc pc = .ok (.invokestatic index, 3)) (hst : st0 = As.reverse ++ st) (hW : (st.map fun v => v.category).sum ≤ 8) (hf : cells + mc ≤ R.cells ∧ slots + ms ≤ R.slots) (hq : pc + 3 = q) (kk : ∀ (r : Int64) (u' : ms_St), post r u' → ms_At p l e R s m args below meth c nL G cy A L (cells + mc) (slots + ms) Q E u' (q) lv (.long r :: st)) : ms_At p l e R s m args below meth c nL G cy A L cells slots Q E u (pc) lv (st0) := by
  subst hq
  subst hst
  intro H locs ls hw hS hl
  exact va_calll (va_runS (As := As) (rest := st) C.1 (hM H.size) (va_cwS As.length C.1.2.2.2.2 (ms_goodIn [.methodLink own index y, .static y, .initialized y.cls] (ms_p3 h1 h2 h4) h5) rfl hrc hrs hd hR) ⟨ms_blind, ms_into C hw hS As⟩ rfl rfl hl.1 rfl (lv_room hW) hdg hf) hS (fun q _ h => ms_free C hw hS q h) (ms_free C hw hS) (fun r u' t H1 locs1 ht hvm hw9 hB hz1 hk1 hS1 => kk r u' hw9 H1 locs1 ls (ms_back C hw hS ht hB) hS1 hl)
/-- invokestatic of a nest mate's private method -/
theorem a_callNL (C : ms_Cx p m c cc nL s args c0 own G cy A) {y : MethodName} {rm : Room} {post : Int64 → ms_St → Prop} {mc ms maxL index : Nat} {cc2 : ByteArray} {ret : Option FieldType} {As st0 : List Value} {host : String} (hM : ms_MetL l y (Cond.code y cc2 maxL ret :: lw_g) rm G cy L E As u post mc ms)
    (h1 : (own, index, y, host) ∈ ms_nests) (h2 : Cond.static y ∈ lw_g) (h4 : Cond.initialized y.cls ∈ lw_g) (h5 : Cond.code y cc2 maxL ret ∈ lw_g) (hrc : rm.cells = mc) (hrs : rm.slots = ms) (hd : y.cls ≠ "java/lang/invoke/MethodHandle" ∧ y.cls ≠ "java/lang/invoke/VarHandle" ∧ (parseMethodDescriptor y.desc).map (fun d => d.parameters.length) = some As.length) (hR : rm.frames + 1 ≤ R.frames ∧ 8 + (maxL + 11) + rm.locals ≤ R.locals)
    (hdg : decode cc pc = .ok (.invokestatic index, 3)) (hst : st0 = As.reverse ++ st) (hW : (st.map fun v => v.category).sum ≤ 8) (hf : cells + mc ≤ R.cells ∧ slots + ms ≤ R.slots) (hq : pc + 3 = q) (kk : ∀ (r : Int64) (u' : ms_St), post r u' → ms_At p l e R s m args below meth c nL G cy A L (cells + mc) (slots + ms) Q E u' (q) lv (.long r :: st)) : ms_At p l e R s m args below meth c nL G cy A L cells slots Q E u (pc) lv (st0) := by
  subst hq
  subst hst
  intro H locs ls hw hS hl
  exact va_calll (va_runSN (As := As) (rest := st) C.1 (hM H.size) ⟨va_cnB As.length C.1.2.2.2.2 (ms_goodIn [] (fun _ h => absurd h List.not_mem_nil) h5) rfl hrc hrs (C.2.2.2.1 _ h1) (C.1.2.2.2.2 _ (List.mem_cons_of_mem _ h4)) hd hR, C.1.2.2.2.2 _ (List.mem_cons_of_mem _ h2), trivial⟩ ⟨ms_blind, ms_into C hw hS As⟩ rfl rfl hl.1 rfl (lv_room hW) hdg hf) hS (fun q _ h => ms_free C hw hS q h) (ms_free C hw hS) (fun r u' t H1 locs1 ht hvm hw9 hB hz1 hk1 hS1 => kk r u' hw9 H1 locs1 ls (ms_back C hw hS ht hB) hS1 hl)
theorem ms_enterV {y : MethodName} {rm : Room} {av : List Value} {post : ms_St → Prop} {mc ms maxL : Nat} {cc2 : ByteArray} {ret : Option FieldType} (hy : plainName y.cls = true) (hlen : (lg_sl av).length ≤ maxL) (hlv : lv_args 0 av = lv)
    (body : ∀ (p : Program) (e : Env) (s : State) (m : MethodId) (args : Array Value) (below : List Frame) (meth : Method) (c : Code) (A : Nat → Prop), ms_Cx p m c cc2 maxL s args (Cond.code y cc2 maxL ret) y.cls G cy A → meth.sig.returnType = ret → meth.locks = false →
      ms_At p l e rm s m args below meth c maxL G cy A L 0 0 (ms_QV below args s G cy L E A post mc ms) E u 0 lv []) : ms_MetV l y (Cond.code y cc2 maxL ret :: lw_g) rm G cy L E av u post mc ms := by
  intro sz
  refine Met.ofW (cc := cc2) (maxL := maxL) (ret := ret) hy rfl ?_
  intro p e s m args below meth c s₁ B hml hv
  obtain ⟨rfl, hsz, hw, hK, hF⟩ := hv
  have hts := atoms_spec (ws := Cond.code y cc2 maxL ret :: lw_g) B.pre
  have hown : s.vm.findClass y.cls = some m.cls := findClass_of_methodNamed B.named
  subst hsz
  have hl := lv_entry av (n := maxL) hlen
  rw [lg_entry_eq]
  exact body p e s m _ below meth c _ ⟨⟨B.exec, B.bytes, hml, hown, hts⟩, hK, fun q h => Or.inr h, hF⟩ B.returns B.notSynchronized s.heap [] _ ⟨hw.1, hw.2.1.self, hw.2.2⟩ va_S.rf (by rw [← hlv]; exact hl)
/-- invokevirtual -/
theorem a_callVV (C : ms_Cx p m c cc nL s args c0 own G cy A) {y : MethodName} {rm : Room} {post : ms_St → Prop} {mc ms maxL index o ci N : Nat} {cc2 : ByteArray} {ret : Option FieldType} {As st0 : List Value} {Cn : String} {T : u_T} (hM : ms_MetV l y (Cond.code y cc2 maxL ret :: lw_g) rm G cy L E (.ref (L o) :: As) u post mc ms) (ho : ms_is E o ci) (hc : vwCl[ci]? = some (Cn, T, N)) (hci : ci < 12)
    (h1 : Cond.methodLink own index y ∈ lw_g) (h2 : Cond.instanceMethod y ∈ lw_g) (h3 : Cond.selects Cn y y ∈ lw_g) (h4 : Cond.initialized Cn ∈ lw_g) (h5 : Cond.code y cc2 maxL ret ∈ lw_g) (hrc : rm.cells = mc) (hrs : rm.slots = ms) (hd : y.cls = Cn ∧ y.cls ≠ "java/lang/invoke/MethodHandle" ∧ y.cls ≠ "java/lang/invoke/VarHandle" ∧ (parseMethodDescriptor y.desc).map (fun d => d.parameters.length) = some As.length) (hR : rm.frames + 1 ≤ R.frames ∧ 8 + (maxL + 11) + rm.locals ≤ R.locals)
    (hdg : decode cc pc = .ok (.invokevirtual index, 3)) (hst : st0 = As.reverse ++ .ref (L o) :: st) (hW : (st.map fun v => v.category).sum ≤ 8) (hf : cells + mc ≤ R.cells ∧ slots + ms ≤ R.slots) (hq : pc + 3 = q) (kk : ∀ (u' : ms_St), post u' → ms_At p l e R s m args below meth c nL G cy A L (cells + mc) (slots + ms) Q E u' (q) lv (st)) : ms_At p l e R s m args below meth c nL G cy A L cells slots Q E u (pc) lv (st0) := by
  subst hq
  subst hst
  intro H locs ls hw hS hl
  exact va_callv (va_runV (As := As) (rest := st) C.1 (hM H.size) (cwV As.length C.1.2.2.2.2 (ms_goodIn [.methodLink own index y, .instanceMethod y, .selects Cn y y, .initialized Cn] (ms_p4 h1 h2 h3 h4) h5) rfl hrc hrs hd hR) ⟨ms_blind, ms_rc C hw ho hc hci, ms_into C hw hS (.ref (L o) :: As)⟩ rfl rfl hl.1 rfl (lv_room hW) hdg hf) hS (fun q _ h => ms_free C hw hS q h) (ms_free C hw hS) (fun u' t H1 locs1 ht hvm hw9 hB hz1 hk1 hS1 => kk u' hw9 H1 locs1 ls (ms_back C hw hS ht hB) hS1 hl)
/-- invokevirtual on a String constant -/
theorem a_callWV (C : ms_Cx p m c cc nL s args c0 own G cy A) {y : MethodName} {rm : Room} {post : ms_St → Prop} {mc ms maxL index w : Nat} {cc2 : ByteArray} {ret : Option FieldType} {As st0 : List Value} (hM : ms_MetV l y (Cond.code y cc2 maxL ret :: lw_g) rm G cy L E (.ref (cy (100 + w)) :: As) u post mc ms) (hw33 : w < 33)
    (h1 : Cond.methodLink own index y ∈ lw_g) (h2 : Cond.instanceMethod y ∈ lw_g) (h3 : Cond.selects "java/lang/String" y y ∈ lw_g) (h4 : Cond.initialized "java/lang/String" ∈ lw_g) (h5 : Cond.code y cc2 maxL ret ∈ lw_g) (hrc : rm.cells = mc) (hrs : rm.slots = ms) (hd : y.cls = "java/lang/String" ∧ y.cls ≠ "java/lang/invoke/MethodHandle" ∧ y.cls ≠ "java/lang/invoke/VarHandle" ∧ (parseMethodDescriptor y.desc).map (fun d => d.parameters.length) = some As.length) (hR : rm.frames + 1 ≤ R.frames ∧ 8 + (maxL + 11) + rm.locals ≤ R.locals)
    (hdg : decode cc pc = .ok (.invokevirtual index, 3)) (hst : st0 = As.reverse ++ .ref (cy (100 + w)) :: st) (hW : (st.map fun v => v.category).sum ≤ 8) (hf : cells + mc ≤ R.cells ∧ slots + ms ≤ R.slots) (hq : pc + 3 = q) (kk : ∀ (u' : ms_St), post u' → ms_At p l e R s m args below meth c nL G cy A L (cells + mc) (slots + ms) Q E u' (q) lv (st)) : ms_At p l e R s m args below meth c nL G cy A L cells slots Q E u (pc) lv (st0) := by
  subst hq
  subst hst
  intro H locs ls hw hS hl
  obtain ⟨x, -, g, -⟩ := ms_F_str C.2.2.2 hw33
  exact va_callv (va_runV (As := As) (rest := st) C.1 (hM H.size) (cwV As.length C.1.2.2.2.2 (ms_goodIn [.methodLink own index y, .instanceMethod y, .selects "java/lang/String" y y, .initialized "java/lang/String"] (ms_p4 h1 h2 h3 h4) h5) rfl hrc hrs hd hR) ⟨ms_blind, va_Orecv g.2.1 hS, ms_into C hw hS (.ref (cy (100 + w)) :: As)⟩ rfl rfl hl.1 rfl (lv_room hW) hdg hf) hS (fun q _ h => ms_free C hw hS q h) (ms_free C hw hS) (fun u' t H1 locs1 ht hvm hw9 hB hz1 hk1 hS1 => kk u' hw9 H1 locs1 ls (ms_back C hw hS ht hB) hS1 hl)
/-- invokestatic -/
theorem a_callSV (C : ms_Cx p m c cc nL s args c0 own G cy A) {y : MethodName} {rm : Room} {post : ms_St → Prop} {mc ms maxL index : Nat} {cc2 : ByteArray} {ret : Option FieldType} {As st0 : List Value} (hM : ms_MetV l y (Cond.code y cc2 maxL ret :: lw_g) rm G cy L E As u post mc ms)
    (h1 : Cond.methodLink own index y ∈ lw_g) (h2 : Cond.static y ∈ lw_g) (h4 : Cond.initialized y.cls ∈ lw_g) (h5 : Cond.code y cc2 maxL ret ∈ lw_g) (hrc : rm.cells = mc) (hrs : rm.slots = ms) (hd : y.cls ≠ "java/lang/invoke/MethodHandle" ∧ y.cls ≠ "java/lang/invoke/VarHandle" ∧ (parseMethodDescriptor y.desc).map (fun d => d.parameters.length) = some As.length) (hR : rm.frames + 1 ≤ R.frames ∧ 8 + (maxL + 11) + rm.locals ≤ R.locals)
    (hdg : decode cc pc = .ok (.invokestatic index, 3)) (hst : st0 = As.reverse ++ st) (hW : (st.map fun v => v.category).sum ≤ 8) (hf : cells + mc ≤ R.cells ∧ slots + ms ≤ R.slots) (hq : pc + 3 = q) (kk : ∀ (u' : ms_St), post u' → ms_At p l e R s m args below meth c nL G cy A L (cells + mc) (slots + ms) Q E u' (q) lv (st)) : ms_At p l e R s m args below meth c nL G cy A L cells slots Q E u (pc) lv (st0) := by
  subst hq
  subst hst
  intro H locs ls hw hS hl
  exact va_callv (va_runS (As := As) (rest := st) C.1 (hM H.size) (va_cwS As.length C.1.2.2.2.2 (ms_goodIn [.methodLink own index y, .static y, .initialized y.cls] (ms_p3 h1 h2 h4) h5) rfl hrc hrs hd hR) ⟨ms_blind, ms_into C hw hS As⟩ rfl rfl hl.1 rfl (lv_room hW) hdg hf) hS (fun q _ h => ms_free C hw hS q h) (ms_free C hw hS) (fun u' t H1 locs1 ht hvm hw9 hB hz1 hk1 hS1 => kk u' hw9 H1 locs1 ls (ms_back C hw hS ht hB) hS1 hl)
/-- invokestatic of a nest mate's private method -/
theorem a_callNV (C : ms_Cx p m c cc nL s args c0 own G cy A) {y : MethodName} {rm : Room} {post : ms_St → Prop} {mc ms maxL index : Nat} {cc2 : ByteArray} {ret : Option FieldType} {As st0 : List Value} {host : String} (hM : ms_MetV l y (Cond.code y cc2 maxL ret :: lw_g) rm G cy L E As u post mc ms)
    (h1 : (own, index, y, host) ∈ ms_nests) (h2 : Cond.static y ∈ lw_g) (h4 : Cond.initialized y.cls ∈ lw_g) (h5 : Cond.code y cc2 maxL ret ∈ lw_g) (hrc : rm.cells = mc) (hrs : rm.slots = ms) (hd : y.cls ≠ "java/lang/invoke/MethodHandle" ∧ y.cls ≠ "java/lang/invoke/VarHandle" ∧ (parseMethodDescriptor y.desc).map (fun d => d.parameters.length) = some As.length) (hR : rm.frames + 1 ≤ R.frames ∧ 8 + (maxL + 11) + rm.locals ≤ R.locals)
    (hdg : decode cc pc = .ok (.invokestatic index, 3)) (hst : st0 = As.reverse ++ st) (hW : (st.map fun v => v.category).sum ≤ 8) (hf : cells + mc ≤ R.cells ∧ slots + ms ≤ R.slots) (hq : pc + 3 = q) (kk : ∀ (u' : ms_St), post u' → ms_At p l e R s m args below meth c nL G cy A L (cells + mc) (slots + ms) Q E u' (q) lv (st)) : ms_At p l e R s m args below meth c nL G cy A L cells slots Q E u (pc) lv (st0) := by
  subst hq
  subst hst
  intro H locs ls hw hS hl
  exact va_callv (va_runSN (As := As) (rest := st) C.1 (hM H.size) ⟨va_cnB As.length C.1.2.2.2.2 (ms_goodIn [] (fun _ h => absurd h List.not_mem_nil) h5) rfl hrc hrs (C.2.2.2.1 _ h1) (C.1.2.2.2.2 _ (List.mem_cons_of_mem _ h4)) hd hR, C.1.2.2.2.2 _ (List.mem_cons_of_mem _ h2), trivial⟩ ⟨ms_blind, ms_into C hw hS As⟩ rfl rfl hl.1 rfl (lv_room hW) hdg hf) hS (fun q _ h => ms_free C hw hS q h) (ms_free C hw hS) (fun u' t H1 locs1 ht hvm hw9 hB hz1 hk1 hS1 => kk u' hw9 H1 locs1 ls (ms_back C hw hS ht hB) hS1 hl)
theorem a_iret (C : ms_Cx p m c cc nL s args c0 own G cy A) {r : Int32} {post : Int32 → ms_St → Prop} {mc ms : Nat} (hdg : decode cc pc = .ok (.ireturn, 1)) (hr : meth.sig.returnType = some .int) (hlocks : meth.locks = false) (h1 : cells ≤ mc) (h2 : slots ≤ ms) (h : post r u) : ms_At p l e R s m args below meth c nL G cy A L cells slots (ms_QI below args s G cy L E A post mc ms) E u (pc) lv ([.int r]) :=
  fun H locs ls hw hS hl => W.widen h1 h2 (W.iret C.1.1 C.1.2.1 hr (fun t ht hW => ⟨⟨r, u, rfl, h, by rw [ht]; exact hw, va_K.moved hW.alike C.2.1⟩, hS.F ht⟩) hS.2.2 hdg hlocks)
theorem a_zret (C : ms_Cx p m c cc nL s args c0 own G cy A) {r : Int32} {ty : FieldType} {post : Int32 → ms_St → Prop} {mc ms : Nat} (hdg : decode cc pc = .ok (.ireturn, 1)) (hr : meth.sig.returnType = some ty) (hlocks : meth.locks = false) (h1 : cells ≤ mc) (h2 : slots ≤ ms) (hn : narrow ty (.int r) = .int r) (h : post r u) : ms_At p l e R s m args below meth c nL G cy A L cells slots (ms_QI below args s G cy L E A post mc ms) E u (pc) lv ([.int r]) :=
  fun H locs ls hw hS hl => W.widen h1 h2 (W.zret C.1.1 C.1.2.1 hr hn (fun t ht hW => ⟨⟨r, u, rfl, h, by rw [ht]; exact hw, va_K.moved hW.alike C.2.1⟩, hS.F ht⟩) hS.2.2 hdg hlocks)
theorem a_lret (C : ms_Cx p m c cc nL s args c0 own G cy A) {r : Int64} {post : Int64 → ms_St → Prop} {mc ms : Nat} (hdg : decode cc pc = .ok (.lreturn, 1)) (hr : meth.sig.returnType = some .long) (hlocks : meth.locks = false) (h1 : cells ≤ mc) (h2 : slots ≤ ms) (h : post r u) : ms_At p l e R s m args below meth c nL G cy A L cells slots (ms_QL below args s G cy L E A post mc ms) E u (pc) lv ([.long r]) :=
  fun H locs ls hw hS hl => W.widen h1 h2 (W.lret C.1.1 C.1.2.1 hr (fun t ht hW => ⟨⟨r, u, rfl, h, by rw [ht]; exact hw, va_K.moved hW.alike C.2.1⟩, hS.F ht⟩) hS.2.2 hdg hlocks)
theorem a_vret (C : ms_Cx p m c cc nL s args c0 own G cy A) {post : ms_St → Prop} {mc ms : Nat} (hdg : decode cc pc = .ok (.return_, 1)) (hr : meth.sig.returnType = none) (hlocks : meth.locks = false) (h1 : cells ≤ mc) (h2 : slots ≤ ms) (h : post u) : ms_At p l e R s m args below meth c nL G cy A L cells slots (ms_QV below args s G cy L E A post mc ms) E u (pc) lv ([]) :=
  fun H locs ls hw hS hl => W.widen h1 h2 (W.vret C.1.1 C.1.2.1 hr (fun t ht hW => ⟨⟨u, rfl, h, by rw [ht]; exact hw, va_K.moved hW.alike C.2.1⟩, hS.F ht⟩) hS.2.2 hdg hlocks)
end ATB
