/-! ===== THROWS: contracts of methods that return or throw ===== -/
def ms_XC (G : va_G) (cy : Nat → ClassId) (A : Nat → Prop) (L : Nat → Nat) (E : ms_En) (px : String → ms_St → Prop) : String → State → State → Prop := vx_X (fun _ : ms_St => True) (fun X u' t => px X u' ∧ ms_E G cy A L E u' t) A
def ms_bad : List Cond := ms_decl.map (fun y => Cond.declares y) ++ ms_cast.map (fun q => Cond.castable q.1 q.2)
abbrev ms_up : List String := ["java/lang/RuntimeException", "java/lang/Exception"]
theorem x_80_t : ∀ w ∈ (vx_atS "CensusWalk" 80 "java/lang/IllegalArgumentException" ms_up).filter goodWord, w ∈ lw_tbl := by decide +kernel
theorem x_80_g : ∀ w ∈ (vx_atS "CensusWalk" 80 "java/lang/IllegalArgumentException" ms_up).filter goodWord, w ∈ lw_g := fun w h => List.mem_filter.mpr ⟨x_80_t w h, (List.mem_filter.mp h).2⟩
theorem x_80_b : ∀ w ∈ (vx_atS "CensusWalk" 80 "java/lang/IllegalArgumentException" ms_up).filter (fun w => !goodWord w), w ∈ ms_bad := by decide +kernel
theorem x_136_t : ∀ w ∈ (vx_atS "CensusWalk" 136 "java/lang/IndexOutOfBoundsException" ms_up).filter goodWord, w ∈ lw_tbl := by decide +kernel
theorem x_136_g : ∀ w ∈ (vx_atS "CensusWalk" 136 "java/lang/IndexOutOfBoundsException" ms_up).filter goodWord, w ∈ lw_g := fun w h => List.mem_filter.mpr ⟨x_136_t w h, (List.mem_filter.mp h).2⟩
theorem x_136_b : ∀ w ∈ (vx_atS "CensusWalk" 136 "java/lang/IndexOutOfBoundsException" ms_up).filter (fun w => !goodWord w), w ∈ ms_bad := by decide +kernel
theorem x_241_t : ∀ w ∈ (vx_atS "CensusWalk" 241 "java/lang/IllegalStateException" ms_up).filter goodWord, w ∈ lw_tbl := by decide +kernel
theorem x_241_g : ∀ w ∈ (vx_atS "CensusWalk" 241 "java/lang/IllegalStateException" ms_up).filter goodWord, w ∈ lw_g := fun w h => List.mem_filter.mpr ⟨x_241_t w h, (List.mem_filter.mp h).2⟩
theorem x_241_b : ∀ w ∈ (vx_atS "CensusWalk" 241 "java/lang/IllegalStateException" ms_up).filter (fun w => !goodWord w), w ∈ ms_bad := by decide +kernel
section ATX
variable {p : Program} {l : Launch} {e : Env} {R : Room} {s : State} {m : MethodId} {args : Array Value} {below : List Frame} {meth : Method} {c : Code} {nL : Nat} {G : va_G} {cy : Nat → ClassId} {A : Nat → Prop} {L : Nat → Nat} {cells slots : Nat} {Q : State → Prop} {cc : ByteArray} {c0 : Cond} {own : String} {E : ms_En} {u : ms_St} {pc q : Nat} {lv lv' : List (Nat × Value)} {st : List Value}
theorem ms_badw (C : ms_Cx p m c cc nL s args c0 own G cy A) : ∀ w ∈ ms_bad, w.before args s = true := by
  intro w h
  rcases List.mem_append.mp h with h | h
  · obtain ⟨y, hy, rfl⟩ := List.mem_map.mp h
    exact va_Nw.use rfl (C.2.2.2.2.2.2.2.2.2.1 y hy)
  · obtain ⟨y, hy, rfl⟩ := List.mem_map.mp h
    exact va_Nw.use rfl (C.2.2.2.2.2.2.2.2.2.2.1 y hy)
theorem x_80 (C : ms_Cx p m c cc nL s args c0 own G cy A) : ∀ w ∈ vx_atS "CensusWalk" 80 "java/lang/IllegalArgumentException" ms_up, w.before args s = true := vx_hat (fun w h => C.1.2.2.2.2 w (List.mem_cons_of_mem _ (x_80_g w h))) x_80_b (ms_badw C)
theorem x_136 (C : ms_Cx p m c cc nL s args c0 own G cy A) : ∀ w ∈ vx_atS "CensusWalk" 136 "java/lang/IndexOutOfBoundsException" ms_up, w.before args s = true := vx_hat (fun w h => C.1.2.2.2.2 w (List.mem_cons_of_mem _ (x_136_g w h))) x_136_b (ms_badw C)
theorem x_241 (C : ms_Cx p m c cc nL s args c0 own G cy A) : ∀ w ∈ vx_atS "CensusWalk" 241 "java/lang/IllegalStateException" ms_up, w.before args s = true := vx_hat (fun w h => C.1.2.2.2.2 w (List.mem_cons_of_mem _ (x_241_g w h))) x_241_b (ms_badw C)
theorem a_wid {k n : Nat} (h1 : cells ≤ k) (h2 : slots ≤ n) (kk : ms_At p l e R s m args below meth c nL G cy A L k n Q E u (pc) lv (st)) : ms_At p l e R s m args below meth c nL G cy A L cells slots Q E u (pc) lv (st) := fun H locs ls hw hS hl => W.widen h1 h2 (kk H locs ls hw hS hl)
def ms_XI (l : Launch) (y : MethodName) (ws : List Cond) (rm : Room) (G : va_G) (cy : Nat → ClassId) (L : Nat → Nat) (E : ms_En) (av : List Value) (u : ms_St) (post : Int32 → ms_St → Prop) (px : String → ms_St → Prop) (mc ms : Nat) : Prop :=
  ∀ sz : Nat, vx_Met l y ws rm (va_Pc av (ms_B G cy L E u sz)) (va_Qi post (ms_E G cy (va_A (ms_ws cy L E u) sz) L E) (va_A (ms_ws cy L E u) sz)) (ms_XC G cy (va_A (ms_ws cy L E u) sz) L E px) mc ms (va_A (ms_ws cy L E u) sz)
def ms_QXI (below : List Frame) (args : Array Value) (s : State) (G : va_G) (cy : Nat → ClassId) (L : Nat → Nat) (E : ms_En) (A : Nat → Prop) (post : Int32 → ms_St → Prop) (px : String → ms_St → Prop) (mc ms : Nat) : State → Prop := vx_MQ below (va_Qi post (ms_E G cy A L E) A) (ms_XC G cy A L E px) args s mc ms A
theorem ms_enterXI {y : MethodName} {rm : Room} {av : List Value} {post : Int32 → ms_St → Prop} {px : String → ms_St → Prop} {mc ms maxL : Nat} {cc2 : ByteArray} {ret : Option FieldType} (hy : plainName y.cls = true) (hlen : (lg_sl av).length ≤ maxL) (hlv : lv_args 0 av = lv)
    (body : ∀ (p : Program) (e : Env) (s : State) (m : MethodId) (args : Array Value) (below : List Frame) (meth : Method) (c : Code) (A : Nat → Prop), ms_Cx p m c cc2 maxL s args (Cond.code y cc2 maxL ret) y.cls G cy A → meth.sig.returnType = ret → meth.locks = false → (∀ x ∈ c.exceptionTable.toList, False) →
      ms_At p l e rm s m args below meth c maxL G cy A L 0 0 (ms_QXI below args s G cy L E A post px mc ms) E u 0 lv []) : ms_XI l y (Cond.code y cc2 maxL ret :: lw_g) rm G cy L E av u post px mc ms := by
  intro sz
  refine vx_ofW (cc := cc2) (maxL := maxL) (ret := ret) hy rfl ?_
  intro p e s m args below meth c s₁ B hml hnx hv
  obtain ⟨rfl, hsz, hw, hK, hF⟩ := hv
  have hts := atoms_spec (ws := Cond.code y cc2 maxL ret :: lw_g) B.pre
  have hown : s.vm.findClass y.cls = some m.cls := findClass_of_methodNamed B.named
  subst hsz
  have hl := lv_entry av (n := maxL) hlen
  rw [lg_entry_eq]
  exact body p e s m _ below meth c _ ⟨⟨B.exec, B.bytes, hml, hown, hts⟩, hK, fun q h => Or.inr h, hF⟩ B.returns B.notSynchronized hnx s.heap [] _ ⟨hw.1, hw.2.1.self, hw.2.2⟩ va_S.rf (by rw [← hlv]; exact hl)
theorem a_retXI {post : Int32 → ms_St → Prop} {px : String → ms_St → Prop} {mc ms : Nat} (kk : ms_At p l e R s m args below meth c nL G cy A L cells slots (ms_QI below args s G cy L E A post mc ms) E u (pc) lv (st)) : ms_At p l e R s m args below meth c nL G cy A L cells slots (ms_QXI below args s G cy L E A post px mc ms) E u (pc) lv (st) := fun H locs ls hw hS hl => vx_ret (kk H locs ls hw hS hl)
/-- 'throw new X("text")' -/
theorem a_throwI (C : ms_Cx p m c cc nL s args c0 own G cy A) {post : Int32 → ms_St → Prop} {px : String → ms_St → Prop} {mc ms ik ic j : Nat} {cls : String} {x : String × Nat × String × List Int32} (hl9 : l.stackTraces = false) (hnx : ∀ x ∈ c.exceptionTable.toList, False) (hlocks : meth.locks = false) (hcls : Bundle.fit cls = true) (hj : ms_strs[j]? = some x) (ho9 : x.1 = own) (hk : Cond.classLink own ik cls ∈ lw_g) (hini : Cond.initialized cls ∈ lw_g) (hat : ∀ w ∈ vx_atS own ic cls ms_up, w.before args s = true) (hgood : ∀ w ∈ Cond.classLink own ik cls :: Cond.initialized cls :: vx_atS own ic cls ms_up, vx_ot w = true)
    (d0 : decode cc pc = .ok (.new ik, 3)) (d3 : decode cc (pc + 3) = .ok (.dup, 1)) (d4 : decode cc (pc + 4) = .ok (.ldc x.2.1, 2)) (d6 : decode cc (pc + 6) = .ok (.invokespecial ic, 3)) (d9 : decode cc (pc + 9) = .ok (.athrow, 1)) (r1 : 5 < R.frames) (r2 : (st.map fun v => v.category).sum + 82 ≤ R.locals) (r3 : cells + 1 ≤ R.cells) (r4 : slots + 6 ≤ R.slots) (h1 : cells + 1 ≤ mc) (h2 : slots + 6 ≤ ms) (h : px cls u) : ms_At p l e R s m args below meth c nL G cy A L cells slots (ms_QXI below args s G cy L E A post px mc ms) E u (pc) lv (st) := by
  subst ho9
  intro H locs ls hw hS hl
  refine vx_throwS (text := x.2.2.1) (sa := cy (100 + j)) (names := ms_up) C.1.1 C.1.2.1 hl9 C.1.2.2.2.1 hcls (by decide +kernel) (C.1.2.2.2.2 _ (List.mem_cons_of_mem _ hk)) (C.1.2.2.2.2 _ (List.mem_cons_of_mem _ hini)) (C.2.2.2.2.1 j x hj).1 hat hgood C.2.2.2.2.2.2.2.1 C.2.2.2.2.2.2.2.2.1 hS (hl.1.trans C.1.2.2.1.symm) d0 d3 d4 d6 d9 (fun x hx => absurd (hnx x hx) id) r1 r2 r3 r4 hlocks ?_ hS.2.2 h1 h2
  intro t hvm hz hq
  exact ⟨u, trivial, ⟨h, ⟨hw.1.kept (fun k z hk => hq z.1 ((hw.1 k z hk).lt)), hw.2.1, hw.2.2⟩, va_K.moved hvm C.2.1⟩, Nat.le_trans hS.1 hz, fun z z1 z2 => (hq z (Nat.lt_of_lt_of_le z1 hS.1)).trans (hS.2.1 z z1 z2)⟩
/-- the same, its text by ldc_w -/
theorem a_throwWI (C : ms_Cx p m c cc nL s args c0 own G cy A) {post : Int32 → ms_St → Prop} {px : String → ms_St → Prop} {mc ms ik ic j : Nat} {cls : String} {x : String × Nat × String × List Int32} (hl9 : l.stackTraces = false) (hnx : ∀ x ∈ c.exceptionTable.toList, False) (hlocks : meth.locks = false) (hcls : Bundle.fit cls = true) (hj : ms_strs[j]? = some x) (ho9 : x.1 = own) (hk : Cond.classLink own ik cls ∈ lw_g) (hini : Cond.initialized cls ∈ lw_g) (hat : ∀ w ∈ vx_atS own ic cls ms_up, w.before args s = true) (hgood : ∀ w ∈ Cond.classLink own ik cls :: Cond.initialized cls :: vx_atS own ic cls ms_up, vx_ot w = true)
    (d0 : decode cc pc = .ok (.new ik, 3)) (d3 : decode cc (pc + 3) = .ok (.dup, 1)) (d4 : decode cc (pc + 4) = .ok (.ldc_w x.2.1, 3)) (d6 : decode cc (pc + 7) = .ok (.invokespecial ic, 3)) (d9 : decode cc (pc + 10) = .ok (.athrow, 1)) (r1 : 5 < R.frames) (r2 : (st.map fun v => v.category).sum + 82 ≤ R.locals) (r3 : cells + 1 ≤ R.cells) (r4 : slots + 6 ≤ R.slots) (h1 : cells + 1 ≤ mc) (h2 : slots + 6 ≤ ms) (h : px cls u) : ms_At p l e R s m args below meth c nL G cy A L cells slots (ms_QXI below args s G cy L E A post px mc ms) E u (pc) lv (st) := by
  subst ho9
  intro H locs ls hw hS hl
  refine vx_throwSW (text := x.2.2.1) (sa := cy (100 + j)) (names := ms_up) C.1.1 C.1.2.1 hl9 C.1.2.2.2.1 hcls (by decide +kernel) (C.1.2.2.2.2 _ (List.mem_cons_of_mem _ hk)) (C.1.2.2.2.2 _ (List.mem_cons_of_mem _ hini)) (C.2.2.2.2.1 j x hj).1 hat hgood C.2.2.2.2.2.2.2.1 C.2.2.2.2.2.2.2.2.1 hS (hl.1.trans C.1.2.2.1.symm) d0 d3 d4 d6 d9 (fun x hx => absurd (hnx x hx) id) r1 r2 r3 r4 hlocks ?_ hS.2.2 h1 h2
  intro t hvm hz hq
  exact ⟨u, trivial, ⟨h, ⟨hw.1.kept (fun k z hk => hq z.1 ((hw.1 k z hk).lt)), hw.2.1, hw.2.2⟩, va_K.moved hvm C.2.1⟩, Nat.le_trans hS.1 hz, fun z z1 z2 => (hq z (Nat.lt_of_lt_of_le z1 hS.1)).trans (hS.2.1 z z1 z2)⟩
def ms_XL (l : Launch) (y : MethodName) (ws : List Cond) (rm : Room) (G : va_G) (cy : Nat → ClassId) (L : Nat → Nat) (E : ms_En) (av : List Value) (u : ms_St) (post : Int64 → ms_St → Prop) (px : String → ms_St → Prop) (mc ms : Nat) : Prop :=
  ∀ sz : Nat, vx_Met l y ws rm (va_Pc av (ms_B G cy L E u sz)) (va_Ql post (ms_E G cy (va_A (ms_ws cy L E u) sz) L E) (va_A (ms_ws cy L E u) sz)) (ms_XC G cy (va_A (ms_ws cy L E u) sz) L E px) mc ms (va_A (ms_ws cy L E u) sz)
def ms_QXL (below : List Frame) (args : Array Value) (s : State) (G : va_G) (cy : Nat → ClassId) (L : Nat → Nat) (E : ms_En) (A : Nat → Prop) (post : Int64 → ms_St → Prop) (px : String → ms_St → Prop) (mc ms : Nat) : State → Prop := vx_MQ below (va_Ql post (ms_E G cy A L E) A) (ms_XC G cy A L E px) args s mc ms A
theorem ms_enterXL {y : MethodName} {rm : Room} {av : List Value} {post : Int64 → ms_St → Prop} {px : String → ms_St → Prop} {mc ms maxL : Nat} {cc2 : ByteArray} {ret : Option FieldType} (hy : plainName y.cls = true) (hlen : (lg_sl av).length ≤ maxL) (hlv : lv_args 0 av = lv)
    (body : ∀ (p : Program) (e : Env) (s : State) (m : MethodId) (args : Array Value) (below : List Frame) (meth : Method) (c : Code) (A : Nat → Prop), ms_Cx p m c cc2 maxL s args (Cond.code y cc2 maxL ret) y.cls G cy A → meth.sig.returnType = ret → meth.locks = false → (∀ x ∈ c.exceptionTable.toList, False) →
      ms_At p l e rm s m args below meth c maxL G cy A L 0 0 (ms_QXL below args s G cy L E A post px mc ms) E u 0 lv []) : ms_XL l y (Cond.code y cc2 maxL ret :: lw_g) rm G cy L E av u post px mc ms := by
  intro sz
  refine vx_ofW (cc := cc2) (maxL := maxL) (ret := ret) hy rfl ?_
  intro p e s m args below meth c s₁ B hml hnx hv
  obtain ⟨rfl, hsz, hw, hK, hF⟩ := hv
  have hts := atoms_spec (ws := Cond.code y cc2 maxL ret :: lw_g) B.pre
  have hown : s.vm.findClass y.cls = some m.cls := findClass_of_methodNamed B.named
  subst hsz
  have hl := lv_entry av (n := maxL) hlen
  rw [lg_entry_eq]
  exact body p e s m _ below meth c _ ⟨⟨B.exec, B.bytes, hml, hown, hts⟩, hK, fun q h => Or.inr h, hF⟩ B.returns B.notSynchronized hnx s.heap [] _ ⟨hw.1, hw.2.1.self, hw.2.2⟩ va_S.rf (by rw [← hlv]; exact hl)
theorem a_retXL {post : Int64 → ms_St → Prop} {px : String → ms_St → Prop} {mc ms : Nat} (kk : ms_At p l e R s m args below meth c nL G cy A L cells slots (ms_QL below args s G cy L E A post mc ms) E u (pc) lv (st)) : ms_At p l e R s m args below meth c nL G cy A L cells slots (ms_QXL below args s G cy L E A post px mc ms) E u (pc) lv (st) := fun H locs ls hw hS hl => vx_ret (kk H locs ls hw hS hl)
/-- 'throw new X("text")' -/
theorem a_throwL (C : ms_Cx p m c cc nL s args c0 own G cy A) {post : Int64 → ms_St → Prop} {px : String → ms_St → Prop} {mc ms ik ic j : Nat} {cls : String} {x : String × Nat × String × List Int32} (hl9 : l.stackTraces = false) (hnx : ∀ x ∈ c.exceptionTable.toList, False) (hlocks : meth.locks = false) (hcls : Bundle.fit cls = true) (hj : ms_strs[j]? = some x) (ho9 : x.1 = own) (hk : Cond.classLink own ik cls ∈ lw_g) (hini : Cond.initialized cls ∈ lw_g) (hat : ∀ w ∈ vx_atS own ic cls ms_up, w.before args s = true) (hgood : ∀ w ∈ Cond.classLink own ik cls :: Cond.initialized cls :: vx_atS own ic cls ms_up, vx_ot w = true)
    (d0 : decode cc pc = .ok (.new ik, 3)) (d3 : decode cc (pc + 3) = .ok (.dup, 1)) (d4 : decode cc (pc + 4) = .ok (.ldc x.2.1, 2)) (d6 : decode cc (pc + 6) = .ok (.invokespecial ic, 3)) (d9 : decode cc (pc + 9) = .ok (.athrow, 1)) (r1 : 5 < R.frames) (r2 : (st.map fun v => v.category).sum + 82 ≤ R.locals) (r3 : cells + 1 ≤ R.cells) (r4 : slots + 6 ≤ R.slots) (h1 : cells + 1 ≤ mc) (h2 : slots + 6 ≤ ms) (h : px cls u) : ms_At p l e R s m args below meth c nL G cy A L cells slots (ms_QXL below args s G cy L E A post px mc ms) E u (pc) lv (st) := by
  subst ho9
  intro H locs ls hw hS hl
  refine vx_throwS (text := x.2.2.1) (sa := cy (100 + j)) (names := ms_up) C.1.1 C.1.2.1 hl9 C.1.2.2.2.1 hcls (by decide +kernel) (C.1.2.2.2.2 _ (List.mem_cons_of_mem _ hk)) (C.1.2.2.2.2 _ (List.mem_cons_of_mem _ hini)) (C.2.2.2.2.1 j x hj).1 hat hgood C.2.2.2.2.2.2.2.1 C.2.2.2.2.2.2.2.2.1 hS (hl.1.trans C.1.2.2.1.symm) d0 d3 d4 d6 d9 (fun x hx => absurd (hnx x hx) id) r1 r2 r3 r4 hlocks ?_ hS.2.2 h1 h2
  intro t hvm hz hq
  exact ⟨u, trivial, ⟨h, ⟨hw.1.kept (fun k z hk => hq z.1 ((hw.1 k z hk).lt)), hw.2.1, hw.2.2⟩, va_K.moved hvm C.2.1⟩, Nat.le_trans hS.1 hz, fun z z1 z2 => (hq z (Nat.lt_of_lt_of_le z1 hS.1)).trans (hS.2.1 z z1 z2)⟩
/-- the same, its text by ldc_w -/
theorem a_throwWL (C : ms_Cx p m c cc nL s args c0 own G cy A) {post : Int64 → ms_St → Prop} {px : String → ms_St → Prop} {mc ms ik ic j : Nat} {cls : String} {x : String × Nat × String × List Int32} (hl9 : l.stackTraces = false) (hnx : ∀ x ∈ c.exceptionTable.toList, False) (hlocks : meth.locks = false) (hcls : Bundle.fit cls = true) (hj : ms_strs[j]? = some x) (ho9 : x.1 = own) (hk : Cond.classLink own ik cls ∈ lw_g) (hini : Cond.initialized cls ∈ lw_g) (hat : ∀ w ∈ vx_atS own ic cls ms_up, w.before args s = true) (hgood : ∀ w ∈ Cond.classLink own ik cls :: Cond.initialized cls :: vx_atS own ic cls ms_up, vx_ot w = true)
    (d0 : decode cc pc = .ok (.new ik, 3)) (d3 : decode cc (pc + 3) = .ok (.dup, 1)) (d4 : decode cc (pc + 4) = .ok (.ldc_w x.2.1, 3)) (d6 : decode cc (pc + 7) = .ok (.invokespecial ic, 3)) (d9 : decode cc (pc + 10) = .ok (.athrow, 1)) (r1 : 5 < R.frames) (r2 : (st.map fun v => v.category).sum + 82 ≤ R.locals) (r3 : cells + 1 ≤ R.cells) (r4 : slots + 6 ≤ R.slots) (h1 : cells + 1 ≤ mc) (h2 : slots + 6 ≤ ms) (h : px cls u) : ms_At p l e R s m args below meth c nL G cy A L cells slots (ms_QXL below args s G cy L E A post px mc ms) E u (pc) lv (st) := by
  subst ho9
  intro H locs ls hw hS hl
  refine vx_throwSW (text := x.2.2.1) (sa := cy (100 + j)) (names := ms_up) C.1.1 C.1.2.1 hl9 C.1.2.2.2.1 hcls (by decide +kernel) (C.1.2.2.2.2 _ (List.mem_cons_of_mem _ hk)) (C.1.2.2.2.2 _ (List.mem_cons_of_mem _ hini)) (C.2.2.2.2.1 j x hj).1 hat hgood C.2.2.2.2.2.2.2.1 C.2.2.2.2.2.2.2.2.1 hS (hl.1.trans C.1.2.2.1.symm) d0 d3 d4 d6 d9 (fun x hx => absurd (hnx x hx) id) r1 r2 r3 r4 hlocks ?_ hS.2.2 h1 h2
  intro t hvm hz hq
  exact ⟨u, trivial, ⟨h, ⟨hw.1.kept (fun k z hk => hq z.1 ((hw.1 k z hk).lt)), hw.2.1, hw.2.2⟩, va_K.moved hvm C.2.1⟩, Nat.le_trans hS.1 hz, fun z z1 z2 => (hq z (Nat.lt_of_lt_of_le z1 hS.1)).trans (hS.2.1 z z1 z2)⟩
def ms_XV (l : Launch) (y : MethodName) (ws : List Cond) (rm : Room) (G : va_G) (cy : Nat → ClassId) (L : Nat → Nat) (E : ms_En) (av : List Value) (u : ms_St) (post : ms_St → Prop) (px : String → ms_St → Prop) (mc ms : Nat) : Prop :=
  ∀ sz : Nat, vx_Met l y ws rm (va_Pc av (ms_B G cy L E u sz)) (va_Qv post (ms_E G cy (va_A (ms_ws cy L E u) sz) L E) (va_A (ms_ws cy L E u) sz)) (ms_XC G cy (va_A (ms_ws cy L E u) sz) L E px) mc ms (va_A (ms_ws cy L E u) sz)
def ms_QXV (below : List Frame) (args : Array Value) (s : State) (G : va_G) (cy : Nat → ClassId) (L : Nat → Nat) (E : ms_En) (A : Nat → Prop) (post : ms_St → Prop) (px : String → ms_St → Prop) (mc ms : Nat) : State → Prop := vx_MQ below (va_Qv post (ms_E G cy A L E) A) (ms_XC G cy A L E px) args s mc ms A
theorem ms_enterXV {y : MethodName} {rm : Room} {av : List Value} {post : ms_St → Prop} {px : String → ms_St → Prop} {mc ms maxL : Nat} {cc2 : ByteArray} {ret : Option FieldType} (hy : plainName y.cls = true) (hlen : (lg_sl av).length ≤ maxL) (hlv : lv_args 0 av = lv)
    (body : ∀ (p : Program) (e : Env) (s : State) (m : MethodId) (args : Array Value) (below : List Frame) (meth : Method) (c : Code) (A : Nat → Prop), ms_Cx p m c cc2 maxL s args (Cond.code y cc2 maxL ret) y.cls G cy A → meth.sig.returnType = ret → meth.locks = false → (∀ x ∈ c.exceptionTable.toList, False) →
      ms_At p l e rm s m args below meth c maxL G cy A L 0 0 (ms_QXV below args s G cy L E A post px mc ms) E u 0 lv []) : ms_XV l y (Cond.code y cc2 maxL ret :: lw_g) rm G cy L E av u post px mc ms := by
  intro sz
  refine vx_ofW (cc := cc2) (maxL := maxL) (ret := ret) hy rfl ?_
  intro p e s m args below meth c s₁ B hml hnx hv
  obtain ⟨rfl, hsz, hw, hK, hF⟩ := hv
  have hts := atoms_spec (ws := Cond.code y cc2 maxL ret :: lw_g) B.pre
  have hown : s.vm.findClass y.cls = some m.cls := findClass_of_methodNamed B.named
  subst hsz
  have hl := lv_entry av (n := maxL) hlen
  rw [lg_entry_eq]
  exact body p e s m _ below meth c _ ⟨⟨B.exec, B.bytes, hml, hown, hts⟩, hK, fun q h => Or.inr h, hF⟩ B.returns B.notSynchronized hnx s.heap [] _ ⟨hw.1, hw.2.1.self, hw.2.2⟩ va_S.rf (by rw [← hlv]; exact hl)
theorem a_retXV {post : ms_St → Prop} {px : String → ms_St → Prop} {mc ms : Nat} (kk : ms_At p l e R s m args below meth c nL G cy A L cells slots (ms_QV below args s G cy L E A post mc ms) E u (pc) lv (st)) : ms_At p l e R s m args below meth c nL G cy A L cells slots (ms_QXV below args s G cy L E A post px mc ms) E u (pc) lv (st) := fun H locs ls hw hS hl => vx_ret (kk H locs ls hw hS hl)
/-- 'throw new X("text")' -/
theorem a_throwV (C : ms_Cx p m c cc nL s args c0 own G cy A) {post : ms_St → Prop} {px : String → ms_St → Prop} {mc ms ik ic j : Nat} {cls : String} {x : String × Nat × String × List Int32} (hl9 : l.stackTraces = false) (hnx : ∀ x ∈ c.exceptionTable.toList, False) (hlocks : meth.locks = false) (hcls : Bundle.fit cls = true) (hj : ms_strs[j]? = some x) (ho9 : x.1 = own) (hk : Cond.classLink own ik cls ∈ lw_g) (hini : Cond.initialized cls ∈ lw_g) (hat : ∀ w ∈ vx_atS own ic cls ms_up, w.before args s = true) (hgood : ∀ w ∈ Cond.classLink own ik cls :: Cond.initialized cls :: vx_atS own ic cls ms_up, vx_ot w = true)
    (d0 : decode cc pc = .ok (.new ik, 3)) (d3 : decode cc (pc + 3) = .ok (.dup, 1)) (d4 : decode cc (pc + 4) = .ok (.ldc x.2.1, 2)) (d6 : decode cc (pc + 6) = .ok (.invokespecial ic, 3)) (d9 : decode cc (pc + 9) = .ok (.athrow, 1)) (r1 : 5 < R.frames) (r2 : (st.map fun v => v.category).sum + 82 ≤ R.locals) (r3 : cells + 1 ≤ R.cells) (r4 : slots + 6 ≤ R.slots) (h1 : cells + 1 ≤ mc) (h2 : slots + 6 ≤ ms) (h : px cls u) : ms_At p l e R s m args below meth c nL G cy A L cells slots (ms_QXV below args s G cy L E A post px mc ms) E u (pc) lv (st) := by
  subst ho9
  intro H locs ls hw hS hl
  refine vx_throwS (text := x.2.2.1) (sa := cy (100 + j)) (names := ms_up) C.1.1 C.1.2.1 hl9 C.1.2.2.2.1 hcls (by decide +kernel) (C.1.2.2.2.2 _ (List.mem_cons_of_mem _ hk)) (C.1.2.2.2.2 _ (List.mem_cons_of_mem _ hini)) (C.2.2.2.2.1 j x hj).1 hat hgood C.2.2.2.2.2.2.2.1 C.2.2.2.2.2.2.2.2.1 hS (hl.1.trans C.1.2.2.1.symm) d0 d3 d4 d6 d9 (fun x hx => absurd (hnx x hx) id) r1 r2 r3 r4 hlocks ?_ hS.2.2 h1 h2
  intro t hvm hz hq
  exact ⟨u, trivial, ⟨h, ⟨hw.1.kept (fun k z hk => hq z.1 ((hw.1 k z hk).lt)), hw.2.1, hw.2.2⟩, va_K.moved hvm C.2.1⟩, Nat.le_trans hS.1 hz, fun z z1 z2 => (hq z (Nat.lt_of_lt_of_le z1 hS.1)).trans (hS.2.1 z z1 z2)⟩
/-- the same, its text by ldc_w -/
theorem a_throwWV (C : ms_Cx p m c cc nL s args c0 own G cy A) {post : ms_St → Prop} {px : String → ms_St → Prop} {mc ms ik ic j : Nat} {cls : String} {x : String × Nat × String × List Int32} (hl9 : l.stackTraces = false) (hnx : ∀ x ∈ c.exceptionTable.toList, False) (hlocks : meth.locks = false) (hcls : Bundle.fit cls = true) (hj : ms_strs[j]? = some x) (ho9 : x.1 = own) (hk : Cond.classLink own ik cls ∈ lw_g) (hini : Cond.initialized cls ∈ lw_g) (hat : ∀ w ∈ vx_atS own ic cls ms_up, w.before args s = true) (hgood : ∀ w ∈ Cond.classLink own ik cls :: Cond.initialized cls :: vx_atS own ic cls ms_up, vx_ot w = true)
    (d0 : decode cc pc = .ok (.new ik, 3)) (d3 : decode cc (pc + 3) = .ok (.dup, 1)) (d4 : decode cc (pc + 4) = .ok (.ldc_w x.2.1, 3)) (d6 : decode cc (pc + 7) = .ok (.invokespecial ic, 3)) (d9 : decode cc (pc + 10) = .ok (.athrow, 1)) (r1 : 5 < R.frames) (r2 : (st.map fun v => v.category).sum + 82 ≤ R.locals) (r3 : cells + 1 ≤ R.cells) (r4 : slots + 6 ≤ R.slots) (h1 : cells + 1 ≤ mc) (h2 : slots + 6 ≤ ms) (h : px cls u) : ms_At p l e R s m args below meth c nL G cy A L cells slots (ms_QXV below args s G cy L E A post px mc ms) E u (pc) lv (st) := by
  subst ho9
  intro H locs ls hw hS hl
  refine vx_throwSW (text := x.2.2.1) (sa := cy (100 + j)) (names := ms_up) C.1.1 C.1.2.1 hl9 C.1.2.2.2.1 hcls (by decide +kernel) (C.1.2.2.2.2 _ (List.mem_cons_of_mem _ hk)) (C.1.2.2.2.2 _ (List.mem_cons_of_mem _ hini)) (C.2.2.2.2.1 j x hj).1 hat hgood C.2.2.2.2.2.2.2.1 C.2.2.2.2.2.2.2.2.1 hS (hl.1.trans C.1.2.2.1.symm) d0 d3 d4 d6 d9 (fun x hx => absurd (hnx x hx) id) r1 r2 r3 r4 hlocks ?_ hS.2.2 h1 h2
  intro t hvm hz hq
  exact ⟨u, trivial, ⟨h, ⟨hw.1.kept (fun k z hk => hq z.1 ((hw.1 k z hk).lt)), hw.2.1, hw.2.2⟩, va_K.moved hvm C.2.1⟩, Nat.le_trans hS.1 hz, fun z z1 z2 => (hq z (Nat.lt_of_lt_of_le z1 hS.1)).trans (hS.2.1 z z1 z2)⟩
/-- a call of one that returns (I) or throws, out of a method that ends as I: the throw goes on -/
theorem a_xcallII (C : ms_Cx p m c cc nL s args c0 own G cy A) {y : MethodName} {rm : Room} {post : Int32 → ms_St → Prop} {post2 : Int32 → ms_St → Prop} {px : String → ms_St → Prop} {mc ms MC MS maxL index o ci N : Nat} {cc2 : ByteArray} {ret : Option FieldType} {As st0 : List Value} {Cn : String} {T : u_T} (hnx : ∀ x ∈ c.exceptionTable.toList, False) (hlocks : meth.locks = false) (hM : ms_XI l y (Cond.code y cc2 maxL ret :: lw_g) rm G cy L E (.ref (L o) :: As) u post px mc ms) (ho : ms_is E o ci) (hc : vwCl[ci]? = some (Cn, T, N)) (hci : ci < 12)
    (h1 : Cond.methodLink own index y ∈ lw_g) (h2 : Cond.instanceMethod y ∈ lw_g) (h3 : Cond.selects Cn y y ∈ lw_g) (h4 : Cond.initialized Cn ∈ lw_g) (h5 : Cond.code y cc2 maxL ret ∈ lw_g) (hrc : rm.cells = mc) (hrs : rm.slots = ms) (hd : y.cls = Cn ∧ y.cls ≠ "java/lang/invoke/MethodHandle" ∧ y.cls ≠ "java/lang/invoke/VarHandle" ∧ (parseMethodDescriptor y.desc).map (fun d => d.parameters.length) = some As.length) (hR : rm.frames + 1 ≤ R.frames ∧ 8 + (maxL + 11) + rm.locals ≤ R.locals)
    (hdg : decode cc pc = .ok (.invokevirtual index, 3)) (hst : st0 = As.reverse ++ .ref (L o) :: st) (hW : (st.map fun v => v.category).sum ≤ 8) (hf : cells + mc ≤ R.cells ∧ slots + ms ≤ R.slots) (hf2 : cells + mc ≤ MC ∧ slots + ms ≤ MS) (hq : pc + 3 = q) (kk : ∀ (r : Int32) (u' : ms_St), post r u' → ms_At p l e R s m args below meth c nL G cy A L (cells + mc) (slots + ms) (ms_QXI below args s G cy L E A post2 px MC MS) E u' (q) lv (.int r :: st)) : ms_At p l e R s m args below meth c nL G cy A L cells slots (ms_QXI below args s G cy L E A post2 px MC MS) E u (pc) lv (st0) := by
  subst hq
  subst hst
  intro H locs ls hw hS hl
  refine vx_calli (vx_runV (As := As) (rest := st) C.1 (hM H.size) (cwV As.length C.1.2.2.2.2 (ms_goodIn [.methodLink own index y, .instanceMethod y, .selects Cn y y, .initialized Cn] (ms_p4 h1 h2 h3 h4) h5) rfl hrc hrs hd hR) ⟨ms_blind, ms_rc C hw ho hc hci, ms_into C hw hS (.ref (L o) :: As)⟩ rfl rfl hl.1 rfl (lv_room hW) hdg hf) hS (fun q _ h => ms_free C hw hS q h) (ms_free C hw hS) (fun q _ h => ms_free C hw hS q h) ?_ (fun r u' t H1 locs1 ht hvm hw9 hB hz1 hk1 hS1 => kk r u' hw9 H1 locs1 ls (ms_back C hw hS ht hB) hS1 hl)
  intro X ce q9 u' t H1 locs1 ht hvm _ hB hz hk hS1 hcell hv hcl
  exact vx_out (fun x hx => absurd (hnx x hx) id) hlocks hcell hv hcl (fun t2 ht2 hvm2 => ⟨u', trivial, ⟨hB.1, by rw [ht2]; exact ms_back C hw hS ht hB.2, va_K.moved hvm2 C.2.1⟩, hS1.F ht2⟩) hS1.2.2 hf2.1 hf2.2
/-- a call of one that returns (I) or throws, out of a method that ends as V: the throw goes on -/
theorem a_xcallIV (C : ms_Cx p m c cc nL s args c0 own G cy A) {y : MethodName} {rm : Room} {post : Int32 → ms_St → Prop} {post2 : ms_St → Prop} {px : String → ms_St → Prop} {mc ms MC MS maxL index o ci N : Nat} {cc2 : ByteArray} {ret : Option FieldType} {As st0 : List Value} {Cn : String} {T : u_T} (hnx : ∀ x ∈ c.exceptionTable.toList, False) (hlocks : meth.locks = false) (hM : ms_XI l y (Cond.code y cc2 maxL ret :: lw_g) rm G cy L E (.ref (L o) :: As) u post px mc ms) (ho : ms_is E o ci) (hc : vwCl[ci]? = some (Cn, T, N)) (hci : ci < 12)
    (h1 : Cond.methodLink own index y ∈ lw_g) (h2 : Cond.instanceMethod y ∈ lw_g) (h3 : Cond.selects Cn y y ∈ lw_g) (h4 : Cond.initialized Cn ∈ lw_g) (h5 : Cond.code y cc2 maxL ret ∈ lw_g) (hrc : rm.cells = mc) (hrs : rm.slots = ms) (hd : y.cls = Cn ∧ y.cls ≠ "java/lang/invoke/MethodHandle" ∧ y.cls ≠ "java/lang/invoke/VarHandle" ∧ (parseMethodDescriptor y.desc).map (fun d => d.parameters.length) = some As.length) (hR : rm.frames + 1 ≤ R.frames ∧ 8 + (maxL + 11) + rm.locals ≤ R.locals)
    (hdg : decode cc pc = .ok (.invokevirtual index, 3)) (hst : st0 = As.reverse ++ .ref (L o) :: st) (hW : (st.map fun v => v.category).sum ≤ 8) (hf : cells + mc ≤ R.cells ∧ slots + ms ≤ R.slots) (hf2 : cells + mc ≤ MC ∧ slots + ms ≤ MS) (hq : pc + 3 = q) (kk : ∀ (r : Int32) (u' : ms_St), post r u' → ms_At p l e R s m args below meth c nL G cy A L (cells + mc) (slots + ms) (ms_QXV below args s G cy L E A post2 px MC MS) E u' (q) lv (.int r :: st)) : ms_At p l e R s m args below meth c nL G cy A L cells slots (ms_QXV below args s G cy L E A post2 px MC MS) E u (pc) lv (st0) := by
  subst hq
  subst hst
  intro H locs ls hw hS hl
  refine vx_calli (vx_runV (As := As) (rest := st) C.1 (hM H.size) (cwV As.length C.1.2.2.2.2 (ms_goodIn [.methodLink own index y, .instanceMethod y, .selects Cn y y, .initialized Cn] (ms_p4 h1 h2 h3 h4) h5) rfl hrc hrs hd hR) ⟨ms_blind, ms_rc C hw ho hc hci, ms_into C hw hS (.ref (L o) :: As)⟩ rfl rfl hl.1 rfl (lv_room hW) hdg hf) hS (fun q _ h => ms_free C hw hS q h) (ms_free C hw hS) (fun q _ h => ms_free C hw hS q h) ?_ (fun r u' t H1 locs1 ht hvm hw9 hB hz1 hk1 hS1 => kk r u' hw9 H1 locs1 ls (ms_back C hw hS ht hB) hS1 hl)
  intro X ce q9 u' t H1 locs1 ht hvm _ hB hz hk hS1 hcell hv hcl
  exact vx_out (fun x hx => absurd (hnx x hx) id) hlocks hcell hv hcl (fun t2 ht2 hvm2 => ⟨u', trivial, ⟨hB.1, by rw [ht2]; exact ms_back C hw hS ht hB.2, va_K.moved hvm2 C.2.1⟩, hS1.F ht2⟩) hS1.2.2 hf2.1 hf2.2
/-- a call of one that returns (V) or throws, out of a method that ends as I: the throw goes on -/
theorem a_xcallVI (C : ms_Cx p m c cc nL s args c0 own G cy A) {y : MethodName} {rm : Room} {post : ms_St → Prop} {post2 : Int32 → ms_St → Prop} {px : String → ms_St → Prop} {mc ms MC MS maxL index o ci N : Nat} {cc2 : ByteArray} {ret : Option FieldType} {As st0 : List Value} {Cn : String} {T : u_T} (hnx : ∀ x ∈ c.exceptionTable.toList, False) (hlocks : meth.locks = false) (hM : ms_XV l y (Cond.code y cc2 maxL ret :: lw_g) rm G cy L E (.ref (L o) :: As) u post px mc ms) (ho : ms_is E o ci) (hc : vwCl[ci]? = some (Cn, T, N)) (hci : ci < 12)
    (h1 : Cond.methodLink own index y ∈ lw_g) (h2 : Cond.instanceMethod y ∈ lw_g) (h3 : Cond.selects Cn y y ∈ lw_g) (h4 : Cond.initialized Cn ∈ lw_g) (h5 : Cond.code y cc2 maxL ret ∈ lw_g) (hrc : rm.cells = mc) (hrs : rm.slots = ms) (hd : y.cls = Cn ∧ y.cls ≠ "java/lang/invoke/MethodHandle" ∧ y.cls ≠ "java/lang/invoke/VarHandle" ∧ (parseMethodDescriptor y.desc).map (fun d => d.parameters.length) = some As.length) (hR : rm.frames + 1 ≤ R.frames ∧ 8 + (maxL + 11) + rm.locals ≤ R.locals)
    (hdg : decode cc pc = .ok (.invokevirtual index, 3)) (hst : st0 = As.reverse ++ .ref (L o) :: st) (hW : (st.map fun v => v.category).sum ≤ 8) (hf : cells + mc ≤ R.cells ∧ slots + ms ≤ R.slots) (hf2 : cells + mc ≤ MC ∧ slots + ms ≤ MS) (hq : pc + 3 = q) (kk : ∀ (u' : ms_St), post u' → ms_At p l e R s m args below meth c nL G cy A L (cells + mc) (slots + ms) (ms_QXI below args s G cy L E A post2 px MC MS) E u' (q) lv (st)) : ms_At p l e R s m args below meth c nL G cy A L cells slots (ms_QXI below args s G cy L E A post2 px MC MS) E u (pc) lv (st0) := by
  subst hq
  subst hst
  intro H locs ls hw hS hl
  refine vx_callv (vx_runV (As := As) (rest := st) C.1 (hM H.size) (cwV As.length C.1.2.2.2.2 (ms_goodIn [.methodLink own index y, .instanceMethod y, .selects Cn y y, .initialized Cn] (ms_p4 h1 h2 h3 h4) h5) rfl hrc hrs hd hR) ⟨ms_blind, ms_rc C hw ho hc hci, ms_into C hw hS (.ref (L o) :: As)⟩ rfl rfl hl.1 rfl (lv_room hW) hdg hf) hS (fun q _ h => ms_free C hw hS q h) (ms_free C hw hS) (fun q _ h => ms_free C hw hS q h) ?_ (fun u' t H1 locs1 ht hvm hw9 hB hz1 hk1 hS1 => kk u' hw9 H1 locs1 ls (ms_back C hw hS ht hB) hS1 hl)
  intro X ce q9 u' t H1 locs1 ht hvm _ hB hz hk hS1 hcell hv hcl
  exact vx_out (fun x hx => absurd (hnx x hx) id) hlocks hcell hv hcl (fun t2 ht2 hvm2 => ⟨u', trivial, ⟨hB.1, by rw [ht2]; exact ms_back C hw hS ht hB.2, va_K.moved hvm2 C.2.1⟩, hS1.F ht2⟩) hS1.2.2 hf2.1 hf2.2
/-- a call of one that returns (V) or throws, out of a method that ends as V: the throw goes on -/
theorem a_xcallVV (C : ms_Cx p m c cc nL s args c0 own G cy A) {y : MethodName} {rm : Room} {post : ms_St → Prop} {post2 : ms_St → Prop} {px : String → ms_St → Prop} {mc ms MC MS maxL index o ci N : Nat} {cc2 : ByteArray} {ret : Option FieldType} {As st0 : List Value} {Cn : String} {T : u_T} (hnx : ∀ x ∈ c.exceptionTable.toList, False) (hlocks : meth.locks = false) (hM : ms_XV l y (Cond.code y cc2 maxL ret :: lw_g) rm G cy L E (.ref (L o) :: As) u post px mc ms) (ho : ms_is E o ci) (hc : vwCl[ci]? = some (Cn, T, N)) (hci : ci < 12)
    (h1 : Cond.methodLink own index y ∈ lw_g) (h2 : Cond.instanceMethod y ∈ lw_g) (h3 : Cond.selects Cn y y ∈ lw_g) (h4 : Cond.initialized Cn ∈ lw_g) (h5 : Cond.code y cc2 maxL ret ∈ lw_g) (hrc : rm.cells = mc) (hrs : rm.slots = ms) (hd : y.cls = Cn ∧ y.cls ≠ "java/lang/invoke/MethodHandle" ∧ y.cls ≠ "java/lang/invoke/VarHandle" ∧ (parseMethodDescriptor y.desc).map (fun d => d.parameters.length) = some As.length) (hR : rm.frames + 1 ≤ R.frames ∧ 8 + (maxL + 11) + rm.locals ≤ R.locals)
    (hdg : decode cc pc = .ok (.invokevirtual index, 3)) (hst : st0 = As.reverse ++ .ref (L o) :: st) (hW : (st.map fun v => v.category).sum ≤ 8) (hf : cells + mc ≤ R.cells ∧ slots + ms ≤ R.slots) (hf2 : cells + mc ≤ MC ∧ slots + ms ≤ MS) (hq : pc + 3 = q) (kk : ∀ (u' : ms_St), post u' → ms_At p l e R s m args below meth c nL G cy A L (cells + mc) (slots + ms) (ms_QXV below args s G cy L E A post2 px MC MS) E u' (q) lv (st)) : ms_At p l e R s m args below meth c nL G cy A L cells slots (ms_QXV below args s G cy L E A post2 px MC MS) E u (pc) lv (st0) := by
  subst hq
  subst hst
  intro H locs ls hw hS hl
  refine vx_callv (vx_runV (As := As) (rest := st) C.1 (hM H.size) (cwV As.length C.1.2.2.2.2 (ms_goodIn [.methodLink own index y, .instanceMethod y, .selects Cn y y, .initialized Cn] (ms_p4 h1 h2 h3 h4) h5) rfl hrc hrs hd hR) ⟨ms_blind, ms_rc C hw ho hc hci, ms_into C hw hS (.ref (L o) :: As)⟩ rfl rfl hl.1 rfl (lv_room hW) hdg hf) hS (fun q _ h => ms_free C hw hS q h) (ms_free C hw hS) (fun q _ h => ms_free C hw hS q h) ?_ (fun u' t H1 locs1 ht hvm hw9 hB hz1 hk1 hS1 => kk u' hw9 H1 locs1 ls (ms_back C hw hS ht hB) hS1 hl)
  intro X ce q9 u' t H1 locs1 ht hvm _ hB hz hk hS1 hcell hv hcl
  exact vx_out (fun x hx => absurd (hnx x hx) id) hlocks hcell hv hcl (fun t2 ht2 hvm2 => ⟨u', trivial, ⟨hB.1, by rw [ht2]; exact ms_back C hw hS ht hB.2, va_K.moved hvm2 C.2.1⟩, hS1.F ht2⟩) hS1.2.2 hf2.1 hf2.2
/-- where X has been thrown at pc -/
def ms_Thr (p : Program) (l : Launch) (e : Env) (R : Room) (s : State) (m : MethodId) (args : Array Value) (below : List Frame) (meth : Method) (c : Code) (nL : Nat) (G : va_G) (cy : Nat → ClassId) (A : Nat → Prop) (L : Nat → Nat) (cells slots : Nat) (Q : State → Prop) (E : ms_En) (X : String) (u : ms_St) (pc : Nat) (lv : List (Nat × Value)) : Prop :=
  ∀ (H : Heap) (locs : List Loc) (ls : Array Slot) (rest : List Value) (q9 : Addr) (ce : Cell), ms_Wd G cy A L E u H → va_S A s.heap H locs → lv_has ls nL lv → H[q9]? = some ce → ce.vm = .none → s.vm.findClass X = some ce.cls → vx_W p l e R s m args below meth c H locs cells slots Q (F0 m pc ls rest) q9
theorem a_catch (C : ms_Cx p m c cc nL s args c0 own G cy A) {X nm : String} (pre : List ExceptionTableEntry) (x : ExceptionTableEntry) (suf : List ExceptionTableEntry) (hsplit : c.exceptionTable.toList = pre ++ x :: suf) (hpass : ∀ z ∈ pre, z.catchType ≠ 0 ∧ ∃ n9 : String, Cond.classLink own z.catchType n9 ∈ lw_g ∧ (X, n9) ∈ ms_nc) (hx : covers x pc = true) (h0 : x.catchType ≠ 0) (hlink : Cond.classLink own x.catchType nm ∈ lw_g) (hcast : (X, nm) ∈ ms_cast)
    (kk : ∀ q9 : Addr, ms_At p l e R s m args below meth c nL G cy A L cells slots Q E u (x.handlerPc) lv ([.ref q9])) : ms_Thr p l e R s m args below meth c nL G cy A L cells slots Q E X u pc lv := by
  intro H locs ls rest q9 ce hw hS hl hcell hv hcl
  exact vx_catch C.1.2.2.2.1 pre x suf hsplit (fun z hz => by obtain ⟨z0, n9, z1, z2⟩ := hpass z hz; exact Or.inr ⟨z0, n9, C.1.2.2.2.2 _ (List.mem_cons_of_mem _ z1), C.2.2.2.2.2.2.2.2.2.2.2.1 _ z2⟩) hx h0 (C.1.2.2.2.2 _ (List.mem_cons_of_mem _ hlink)) (va_Nw.use rfl (C.2.2.2.2.2.2.2.2.2.2.1 _ hcast)) hcell hv hcl (kk q9 H locs ls hw hS hl)
theorem a_ycallI (C : ms_Cx p m c cc nL s args c0 own G cy A) {y : MethodName} {rm : Room} {post : Int32 → ms_St → Prop} {px : String → ms_St → Prop} {mc ms maxL index o ci N : Nat} {cc2 : ByteArray} {ret : Option FieldType} {As st0 : List Value} {Cn : String} {T : u_T} (hM : ms_XI l y (Cond.code y cc2 maxL ret :: lw_g) rm G cy L E (.ref (L o) :: As) u post px mc ms) (ho : ms_is E o ci) (hc : vwCl[ci]? = some (Cn, T, N)) (hci : ci < 12)
    (h1 : Cond.methodLink own index y ∈ lw_g) (h2 : Cond.instanceMethod y ∈ lw_g) (h3 : Cond.selects Cn y y ∈ lw_g) (h4 : Cond.initialized Cn ∈ lw_g) (h5 : Cond.code y cc2 maxL ret ∈ lw_g) (hrc : rm.cells = mc) (hrs : rm.slots = ms) (hd : y.cls = Cn ∧ y.cls ≠ "java/lang/invoke/MethodHandle" ∧ y.cls ≠ "java/lang/invoke/VarHandle" ∧ (parseMethodDescriptor y.desc).map (fun d => d.parameters.length) = some As.length) (hR : rm.frames + 1 ≤ R.frames ∧ 8 + (maxL + 11) + rm.locals ≤ R.locals)
    (hdg : decode cc pc = .ok (.invokevirtual index, 3)) (hst : st0 = As.reverse ++ .ref (L o) :: st) (hW : (st.map fun v => v.category).sum ≤ 8) (hf : cells + mc ≤ R.cells ∧ slots + ms ≤ R.slots) (hq : pc + 3 = q) (kx : ∀ (X : String) (u' : ms_St), px X u' → ms_Thr p l e R s m args below meth c nL G cy A L (cells + mc) (slots + ms) Q E X u' pc lv) (kk : ∀ (r : Int32) (u' : ms_St), post r u' → ms_At p l e R s m args below meth c nL G cy A L (cells + mc) (slots + ms) Q E u' (q) lv (.int r :: st)) : ms_At p l e R s m args below meth c nL G cy A L cells slots Q E u (pc) lv (st0) := by
  subst hq
  subst hst
  intro H locs ls hw hS hl
  exact vx_calli (vx_runV (As := As) (rest := st) C.1 (hM H.size) (cwV As.length C.1.2.2.2.2 (ms_goodIn [.methodLink own index y, .instanceMethod y, .selects Cn y y, .initialized Cn] (ms_p4 h1 h2 h3 h4) h5) rfl hrc hrs hd hR) ⟨ms_blind, ms_rc C hw ho hc hci, ms_into C hw hS (.ref (L o) :: As)⟩ rfl rfl hl.1 rfl (lv_room hW) hdg hf) hS (fun q _ h => ms_free C hw hS q h) (ms_free C hw hS) (fun q _ h => ms_free C hw hS q h) (fun X ce q9 u' t H1 locs1 ht hvm _ hB hz hk hS1 hcell hv hcl => kx X u' hB.1 H1 locs1 ls st q9 ce (ms_back C hw hS ht hB.2) hS1 hl hcell hv hcl) (fun r u' t H1 locs1 ht hvm hw9 hB hz1 hk1 hS1 => kk r u' hw9 H1 locs1 ls (ms_back C hw hS ht hB) hS1 hl)
theorem ms_enterWI {y : MethodName} {rm : Room} {av : List Value} {post : Int32 → ms_St → Prop} {mc ms maxL : Nat} {cc2 : ByteArray} {ret : Option FieldType} {hh : List (Nat × Nat × Nat × Nat)} (hy : plainName y.cls = true) (hlen : (lg_sl av).length ≤ maxL) (hlv : lv_args 0 av = lv)
    (body : ∀ (p : Program) (e : Env) (s : State) (m : MethodId) (args : Array Value) (below : List Frame) (meth : Method) (c : Code) (A : Nat → Prop), ms_Cx p m c cc2 maxL s args (Cond.codeWith y cc2 maxL ret hh) y.cls G cy A → meth.sig.returnType = ret → meth.locks = false → c.exceptionTable.toList = tableOf hh →
      ms_At p l e rm s m args below meth c maxL G cy A L 0 0 (ms_QI below args s G cy L E A post mc ms) E u 0 lv []) : ms_MetI l y (Cond.codeWith y cc2 maxL ret hh :: lw_g) rm G cy L E av u post mc ms := by
  intro sz
  refine va_MetW (cc := cc2) (maxL := maxL) (ret := ret) (hh := hh) hy rfl ?_
  intro p e s m args below meth c s₁ B hml hv
  obtain ⟨rfl, hsz, hw, hK, hF⟩ := hv
  have hts := atoms_spec (ws := Cond.codeWith y cc2 maxL ret hh :: lw_g) B.pre
  have hown : s.vm.findClass y.cls = some m.cls := findClass_of_methodNamed B.named
  have htab := vx_table (x := y) B (hts _ List.mem_cons_self)
  subst hsz
  have hl := lv_entry av (n := maxL) hlen
  rw [lg_entry_eq]
  exact body p e s m _ below meth c _ ⟨⟨B.exec, B.bytes, hml, hown, hts⟩, hK, fun q h => Or.inr h, hF⟩ B.returns B.notSynchronized htab s.heap [] _ ⟨hw.1, hw.2.1.self, hw.2.2⟩ va_S.rf (by rw [← hlv]; exact hl)
/-- invokestatic of a method with a table -/
theorem a_callZI (C : ms_Cx p m c cc nL s args c0 own G cy A) {y : MethodName} {rm : Room} {post : Int32 → ms_St → Prop} {mc ms maxL index : Nat} {cc2 : ByteArray} {ret : Option FieldType} {hh : List (Nat × Nat × Nat × Nat)} {As st0 : List Value} (hM : ms_MetI l y (Cond.codeWith y cc2 maxL ret hh :: lw_g) rm G cy L E As u post mc ms)
    (h1 : Cond.methodLink own index y ∈ lw_g) (h2 : Cond.static y ∈ lw_g) (h4 : Cond.initialized y.cls ∈ lw_g) (h5 : Cond.codeWith y cc2 maxL ret hh ∈ lw_g) (hrc : rm.cells = mc) (hrs : rm.slots = ms) (hd : y.cls ≠ "java/lang/invoke/MethodHandle" ∧ y.cls ≠ "java/lang/invoke/VarHandle" ∧ (parseMethodDescriptor y.desc).map (fun d => d.parameters.length) = some As.length) (hR : rm.frames + 1 ≤ R.frames ∧ 8 + (maxL + 11) + rm.locals ≤ R.locals)
    (hdg : decode cc pc = .ok (.invokestatic index, 3)) (hst : st0 = As.reverse ++ st) (hW : (st.map fun v => v.category).sum ≤ 8) (hf : cells + mc ≤ R.cells ∧ slots + ms ≤ R.slots) (hq : pc + 3 = q) (kk : ∀ (r : Int32) (u' : ms_St), post r u' → ms_At p l e R s m args below meth c nL G cy A L (cells + mc) (slots + ms) Q E u' (q) lv (.int r :: st)) : ms_At p l e R s m args below meth c nL G cy A L cells slots Q E u (pc) lv (st0) := by
  subst hq
  subst hst
  intro H locs ls hw hS hl
  exact va_calli (vx_runSW (As := As) (rest := st) C.1 (hM H.size) (vx_cwSW As.length C.1.2.2.2.2 (ms_goodIn [.methodLink own index y, .static y, .initialized y.cls] (ms_p3 h1 h2 h4) h5) rfl hrc hrs hd hR) ⟨ms_blind, ms_into C hw hS As⟩ rfl rfl hl.1 rfl (lv_room hW) hdg hf) hS (fun q _ h => ms_free C hw hS q h) (ms_free C hw hS) (fun r u' t H1 locs1 ht hvm hw9 hB hz1 hk1 hS1 => kk r u' hw9 H1 locs1 ls (ms_back C hw hS ht hB) hS1 hl)
end ATX
