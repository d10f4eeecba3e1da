/-! ===== FACTS of the tables that no contract's words can hold: links between nest mates, classes of arrays ===== -/
def ms_nests : List (String × Nat × MethodName × String) := [("CensusWalk", 22, ⟨"CensusWalk$Town", "<init>", "()V"⟩, "CensusWalk"), ("CensusWalk$Town", 21, ⟨"CensusWalk$Streets", "<init>", "()V"⟩, "CensusWalk"), ("CensusWalk$Town", 28, ⟨"CensusWalk$Houses", "<init>", "()V"⟩, "CensusWalk"), ("CensusWalk$Town", 35, ⟨"CensusWalk$Walkers", "<init>", "()V"⟩, "CensusWalk"), ("CensusWalk", 39, ⟨"CensusWalk$SetupReader", "<init>", "()V"⟩, "CensusWalk"), ("CensusWalk$SetupReader", 11, ⟨"CensusWalk$Town", "<init>", "()V"⟩, "CensusWalk"), ("CensusWalk$SetupReader", 27, ⟨"CensusWalk$Tokens", "<init>", "()V"⟩, "CensusWalk"), ("CensusWalk$SetupReader", 34, ⟨"CensusWalk$VisitExpression", "<init>", "()V"⟩, "CensusWalk"), ("CensusWalk", 46, ⟨"CensusWalk$Routes", "<init>", "()V"⟩, "CensusWalk"), ("CensusWalk", 53, ⟨"CensusWalk$Simulation", "<init>", "()V"⟩, "CensusWalk"), ("CensusWalk", 60, ⟨"CensusWalk$Search", "<init>", "()V"⟩, "CensusWalk"), ("CensusWalk$Simulation", 109, ⟨"CensusWalk", "contains", "(II)Z"⟩, "CensusWalk"), ("CensusWalk$Search", 104, ⟨"CensusWalk", "contains", "(II)Z"⟩, "CensusWalk")]
def ms_F (_A : Nat → Prop) (U : State) : Prop := ∀ q ∈ ms_nests, va_Nw (.methodLinkNest q.1 q.2.1 q.2.2.1 q.2.2.2) U
theorem ms_F_warm {A A1 : Nat → Prop} {s U : State} (hW : s.WarmedH U.vm) (_ : ∀ q, A1 q → A q) (_ : ∀ q : Nat, q < s.heap.size → ¬ A q → U.heap[q]? = s.heap[q]?) (h : ms_F A s) : ms_F A1 U := fun q hq => va_Nw.warmM hW (h q hq)
theorem ms_F_same {A : Nat → Prop} {u U : State} (hv : u.vm = U.vm) (_ : u.heap = U.heap) (h : ms_F A u) : ms_F A U := fun q hq => va_Nw.same rfl hv (h q hq)
/-! ===== THE JUDGEMENT ms_At: from every heap that holds the memory u, with the locals lv and the stack st, the machine comes to Q ===== -/
def ms_Cx (p : Program) (m : MethodId) (c : Code) (cc : ByteArray) (nL : Nat) (s : State) (args : Array Value) (c0 : Cond) (own : String) (G : va_G) (cy : Nat → ClassId) (A : Nat → Prop) : Prop := CallFix p m c cc nL s args (c0 :: lw_g) own ∧ va_K G vwCl (ms_ty cy) s ∧ (∀ q : Nat, s.heap.size ≤ q → A q) ∧ ms_F A s
def ms_At (p : Program) (l : Launch) (e : Env) (R : Room) (s : State) (m : MethodId) (args : Array Value) (below : List Frame) (meth : Method) (c : Code) (nL : Nat) (G : va_G) (cy : Nat → ClassId) (A : Nat → Prop) (L : Nat → Nat) (cells slots : Nat) (Q : State → Prop) (E : ms_En) (u : ms_St) (pc : Nat) (lv : List (Nat × Value)) (st : List Value) : Prop :=
  ∀ (H : Heap) (locs : List Loc) (ls : Array Slot), ms_Wd G cy A L E u H → va_S A s.heap H locs → lv_has ls nL lv → W p l e R s m args below meth c H locs cells slots Q (F0 m pc ls st)
section ATA
variable {p : Program} {l : Launch} {e : Env} {R : Room} {s : State} {m : MethodId} {args : Array Value} {below : List Frame} {meth : Method} {c : Code} {nL : Nat} {G : va_G} {cy : Nat → ClassId} {A : Nat → Prop} {L : Nat → Nat} {cells slots : Nat} {Q : State → Prop} {cc : ByteArray} {c0 : Cond} {own : String} {E : ms_En} {u : ms_St} {pc q : Nat} {lv lv' : List (Nat × Value)} {st : List Value}

theorem a_iconst (C : ms_Cx p m c cc nL s args c0 own G cy A) {n : Int} {v : Int32} (hdg : decode cc pc = .ok (.iconst n, 1)) (hv : Int32.ofInt n = v) (hq : pc + 1 = q) (kk : ms_At p l e R s m args below meth c nL G cy A L cells slots Q E u (q) lv (.int v :: st)) : ms_At p l e R s m args below meth c nL G cy A L cells slots Q E u (pc) lv (st) := by
  subst hq
  exact fun H locs ls hw hS hl => lv_iconst C.1.1 C.1.2.1 hdg hv (kk H locs ls hw hS hl)
theorem a_bipush (C : ms_Cx p m c cc nL s args c0 own G cy A) {n : Int} {v : Int32} (hdg : decode cc pc = .ok (.bipush n, 2)) (hv : (Int8.ofInt n).toInt32 = v) (hq : pc + 2 = q) (kk : ms_At p l e R s m args below meth c nL G cy A L cells slots Q E u (q) lv (.int v :: st)) : ms_At p l e R s m args below meth c nL G cy A L cells slots Q E u (pc) lv (st) := by
  subst hq
  exact fun H locs ls hw hS hl => lv_bipush C.1.1 C.1.2.1 hdg hv (kk H locs ls hw hS hl)
theorem a_sipush (C : ms_Cx p m c cc nL s args c0 own G cy A) {n : Int} {v : Int32} (hdg : decode cc pc = .ok (.sipush n, 3)) (hv : (Int16.ofInt n).toInt32 = v) (hq : pc + 3 = q) (kk : ms_At p l e R s m args below meth c nL G cy A L cells slots Q E u (q) lv (.int v :: st)) : ms_At p l e R s m args below meth c nL G cy A L cells slots Q E u (pc) lv (st) := by
  subst hq
  exact fun H locs ls hw hS hl => lv_sipush C.1.1 C.1.2.1 hdg hv (kk H locs ls hw hS hl)
theorem a_lconst (C : ms_Cx p m c cc nL s args c0 own G cy A) {n : Fin 2} {v : Int64} (hdg : decode cc pc = .ok (.lconst n, 1)) (hv : Int64.ofNat (n : Nat) = v) (hq : pc + 1 = q) (kk : ms_At p l e R s m args below meth c nL G cy A L cells slots Q E u (q) lv (.long v :: st)) : ms_At p l e R s m args below meth c nL G cy A L cells slots Q E u (pc) lv (st) := by
  subst hq
  exact fun H locs ls hw hS hl => lv_lconst C.1.1 C.1.2.1 hdg hv (kk H locs ls hw hS hl)
theorem a_ldc (C : ms_Cx p m c cc nL s args c0 own G cy A) {i : Nat} {v : Int32} (hdg : decode cc pc = .ok (.ldc i, 2)) (hw9 : Cond.constant own i v ∈ lw_g) (hq : pc + 2 = q) (kk : ms_At p l e R s m args below meth c nL G cy A L cells slots Q E u (q) lv (.int v :: st)) : ms_At p l e R s m args below meth c nL G cy A L cells slots Q E u (pc) lv (st) := by
  subst hq
  exact fun H locs ls hw hS hl => lv_ldc C.1.1 C.1.2.1 C.1.2.2.2.1 (C.1.2.2.2.2 _ (List.mem_cons_of_mem _ hw9)) hdg (kk H locs ls hw hS hl)
theorem a_ldcw (C : ms_Cx p m c cc nL s args c0 own G cy A) {i : Nat} {v : Int32} (hdg : decode cc pc = .ok (.ldc_w i, 3)) (hw9 : Cond.constant own i v ∈ lw_g) (hq : pc + 3 = q) (kk : ms_At p l e R s m args below meth c nL G cy A L cells slots Q E u (q) lv (.int v :: st)) : ms_At p l e R s m args below meth c nL G cy A L cells slots Q E u (pc) lv (st) := by
  subst hq
  exact fun H locs ls hw hS hl => lv_ldcw C.1.1 C.1.2.1 C.1.2.2.2.1 (C.1.2.2.2.2 _ (List.mem_cons_of_mem _ hw9)) hdg (kk H locs ls hw hS hl)
theorem a_ldc2 (C : ms_Cx p m c cc nL s args c0 own G cy A) {i : Nat} {v : Int64} (hdg : decode cc pc = .ok (.ldc2_w i, 3)) (hw9 : Cond.constantLong own i v ∈ lw_g) (hq : pc + 3 = q) (kk : ms_At p l e R s m args below meth c nL G cy A L cells slots Q E u (q) lv (.long v :: st)) : ms_At p l e R s m args below meth c nL G cy A L cells slots Q E u (pc) lv (st) := by
  subst hq
  exact fun H locs ls hw hS hl => lv_ldc2 C.1.1 C.1.2.1 C.1.2.2.2.1 (C.1.2.2.2.2 _ (List.mem_cons_of_mem _ hw9)) hdg (kk H locs ls hw hS hl)
theorem a_iload_n (C : ms_Cx p m c cc nL s args c0 own G cy A) {k : Fin 4} {i : Nat} {x : Int32} (hdg : decode cc pc = .ok (.iload_n k, 1)) (hi : (k : Nat) = i) (j : Nat) (hj : lv[j]? = some (i, .int x)) (hq : pc + 1 = q) (kk : ms_At p l e R s m args below meth c nL G cy A L cells slots Q E u (q) lv (.int x :: st)) : ms_At p l e R s m args below meth c nL G cy A L cells slots Q E u (pc) lv (st) := by
  subst hq
  exact fun H locs ls hw hS hl => lv_iload_n C.1.1 C.1.2.1 hdg hi (lv_at hl j hj) (kk H locs ls hw hS hl)
theorem a_iload (C : ms_Cx p m c cc nL s args c0 own G cy A) {i : Nat} {x : Int32} (hdg : decode cc pc = .ok (.iload i, 2)) (j : Nat) (hj : lv[j]? = some (i, .int x)) (hq : pc + 2 = q) (kk : ms_At p l e R s m args below meth c nL G cy A L cells slots Q E u (q) lv (.int x :: st)) : ms_At p l e R s m args below meth c nL G cy A L cells slots Q E u (pc) lv (st) := by
  subst hq
  exact fun H locs ls hw hS hl => lv_iload C.1.1 C.1.2.1 hdg (lv_at hl j hj) (kk H locs ls hw hS hl)
theorem a_lload_n (C : ms_Cx p m c cc nL s args c0 own G cy A) {k : Fin 4} {i : Nat} {x : Int64} (hdg : decode cc pc = .ok (.lload_n k, 1)) (hi : (k : Nat) = i) (j : Nat) (hj : lv[j]? = some (i, .long x)) (hq : pc + 1 = q) (kk : ms_At p l e R s m args below meth c nL G cy A L cells slots Q E u (q) lv (.long x :: st)) : ms_At p l e R s m args below meth c nL G cy A L cells slots Q E u (pc) lv (st) := by
  subst hq
  exact fun H locs ls hw hS hl => lv_lload_n C.1.1 C.1.2.1 hdg hi (lv_at hl j hj) (kk H locs ls hw hS hl)
theorem a_lload (C : ms_Cx p m c cc nL s args c0 own G cy A) {i : Nat} {x : Int64} (hdg : decode cc pc = .ok (.lload i, 2)) (j : Nat) (hj : lv[j]? = some (i, .long x)) (hq : pc + 2 = q) (kk : ms_At p l e R s m args below meth c nL G cy A L cells slots Q E u (q) lv (.long x :: st)) : ms_At p l e R s m args below meth c nL G cy A L cells slots Q E u (pc) lv (st) := by
  subst hq
  exact fun H locs ls hw hS hl => lv_lload C.1.1 C.1.2.1 hdg (lv_at hl j hj) (kk H locs ls hw hS hl)
theorem a_aload_n (C : ms_Cx p m c cc nL s args c0 own G cy A) {k : Fin 4} {i : Nat} {x : Nat} (hdg : decode cc pc = .ok (.aload_n k, 1)) (hi : (k : Nat) = i) (j : Nat) (hj : lv[j]? = some (i, .ref x)) (hq : pc + 1 = q) (kk : ms_At p l e R s m args below meth c nL G cy A L cells slots Q E u (q) lv (.ref x :: st)) : ms_At p l e R s m args below meth c nL G cy A L cells slots Q E u (pc) lv (st) := by
  subst hq
  exact fun H locs ls hw hS hl => lv_aload_n C.1.1 C.1.2.1 hdg hi (lv_at hl j hj) (kk H locs ls hw hS hl)
theorem a_aload (C : ms_Cx p m c cc nL s args c0 own G cy A) {i : Nat} {x : Nat} (hdg : decode cc pc = .ok (.aload i, 2)) (j : Nat) (hj : lv[j]? = some (i, .ref x)) (hq : pc + 2 = q) (kk : ms_At p l e R s m args below meth c nL G cy A L cells slots Q E u (q) lv (.ref x :: st)) : ms_At p l e R s m args below meth c nL G cy A L cells slots Q E u (pc) lv (st) := by
  subst hq
  exact fun H locs ls hw hS hl => lv_aload C.1.1 C.1.2.1 hdg (lv_at hl j hj) (kk H locs ls hw hS hl)
theorem a_istore_n (C : ms_Cx p m c cc nL s args c0 own G cy A) {k : Fin 4} {i : Nat} {x : Int32} (hdg : decode cc pc = .ok (.istore_n k, 1)) (hi : (k : Nat) = i) (hn : i < nL) (js : List Nat) (hj : lv_pick ((i, Value.int x) :: lv.filter (fun q => !(q.1 == i) && !(q.1 + 1 == i && q.2.category == 2))) js = lv') (hq : pc + 1 = q) (kk : ms_At p l e R s m args below meth c nL G cy A L cells slots Q E u (q) lv' (st)) : ms_At p l e R s m args below meth c nL G cy A L cells slots Q E u (pc) lv (.int x :: st) := by
  subst hq
  exact fun H locs ls hw hS hl => lv_istore_n C.1.1 C.1.2.1 hdg hi hl hn rfl (fun ls' hl' => kk H locs ls' hw hS (lv_sub hl' js hj))
theorem a_istore (C : ms_Cx p m c cc nL s args c0 own G cy A) {i : Nat} {x : Int32} (hdg : decode cc pc = .ok (.istore i, 2)) (hn : i < nL) (js : List Nat) (hj : lv_pick ((i, Value.int x) :: lv.filter (fun q => !(q.1 == i) && !(q.1 + 1 == i && q.2.category == 2))) js = lv') (hq : pc + 2 = q) (kk : ms_At p l e R s m args below meth c nL G cy A L cells slots Q E u (q) lv' (st)) : ms_At p l e R s m args below meth c nL G cy A L cells slots Q E u (pc) lv (.int x :: st) := by
  subst hq
  exact fun H locs ls hw hS hl => lv_istore C.1.1 C.1.2.1 hdg hl hn rfl (fun ls' hl' => kk H locs ls' hw hS (lv_sub hl' js hj))
theorem a_astore_n (C : ms_Cx p m c cc nL s args c0 own G cy A) {k : Fin 4} {i : Nat} {x : Nat} (hdg : decode cc pc = .ok (.astore_n k, 1)) (hi : (k : Nat) = i) (hn : i < nL) (js : List Nat) (hj : lv_pick ((i, Value.ref x) :: lv.filter (fun q => !(q.1 == i) && !(q.1 + 1 == i && q.2.category == 2))) js = lv') (hq : pc + 1 = q) (kk : ms_At p l e R s m args below meth c nL G cy A L cells slots Q E u (q) lv' (st)) : ms_At p l e R s m args below meth c nL G cy A L cells slots Q E u (pc) lv (.ref x :: st) := by
  subst hq
  exact fun H locs ls hw hS hl => lv_astore_n C.1.1 C.1.2.1 hdg hi hl hn rfl (fun ls' hl' => kk H locs ls' hw hS (lv_sub hl' js hj))
theorem a_astore (C : ms_Cx p m c cc nL s args c0 own G cy A) {i : Nat} {x : Nat} (hdg : decode cc pc = .ok (.astore i, 2)) (hn : i < nL) (js : List Nat) (hj : lv_pick ((i, Value.ref x) :: lv.filter (fun q => !(q.1 == i) && !(q.1 + 1 == i && q.2.category == 2))) js = lv') (hq : pc + 2 = q) (kk : ms_At p l e R s m args below meth c nL G cy A L cells slots Q E u (q) lv' (st)) : ms_At p l e R s m args below meth c nL G cy A L cells slots Q E u (pc) lv (.ref x :: st) := by
  subst hq
  exact fun H locs ls hw hS hl => lv_astore C.1.1 C.1.2.1 hdg hl hn rfl (fun ls' hl' => kk H locs ls' hw hS (lv_sub hl' js hj))
theorem a_lstore_n (C : ms_Cx p m c cc nL s args c0 own G cy A) {k : Fin 4} {i : Nat} {x : Int64} (hdg : decode cc pc = .ok (.lstore_n k, 1)) (hi : (k : Nat) = i) (hn : i + 1 < nL) (js : List Nat) (hj : lv_pick ((i, Value.long x) :: lv.filter (fun q => !(q.1 == i) && (!(q.1 == i + 1) && !(q.1 + 1 == i && q.2.category == 2)))) js = lv') (hq : pc + 1 = q) (kk : ms_At p l e R s m args below meth c nL G cy A L cells slots Q E u (q) lv' (st)) : ms_At p l e R s m args below meth c nL G cy A L cells slots Q E u (pc) lv (.long x :: st) := by
  subst hq
  exact fun H locs ls hw hS hl => lv_lstore_n C.1.1 C.1.2.1 hdg hi hl hn rfl (fun ls' hl' => kk H locs ls' hw hS (lv_sub hl' js hj))
theorem a_lstore (C : ms_Cx p m c cc nL s args c0 own G cy A) {i : Nat} {x : Int64} (hdg : decode cc pc = .ok (.lstore i, 2)) (hn : i + 1 < nL) (js : List Nat) (hj : lv_pick ((i, Value.long x) :: lv.filter (fun q => !(q.1 == i) && (!(q.1 == i + 1) && !(q.1 + 1 == i && q.2.category == 2)))) js = lv') (hq : pc + 2 = q) (kk : ms_At p l e R s m args below meth c nL G cy A L cells slots Q E u (q) lv' (st)) : ms_At p l e R s m args below meth c nL G cy A L cells slots Q E u (pc) lv (.long x :: st) := by
  subst hq
  exact fun H locs ls hw hS hl => lv_lstore C.1.1 C.1.2.1 hdg hl hn rfl (fun ls' hl' => kk H locs ls' hw hS (lv_sub hl' js hj))
theorem a_iinc (C : ms_Cx p m c cc nL s args c0 own G cy A) {i : Nat} {n : Int} {x v : Int32} (hdg : decode cc pc = .ok (.iinc i n, 3)) (j : Nat) (hj0 : lv[j]? = some (i, .int x)) (hv : x + Int32.ofInt n = v) (hn : i < nL) (js : List Nat) (hj : lv_pick ((i, Value.int v) :: lv.filter (fun q => !(q.1 == i) && !(q.1 + 1 == i && q.2.category == 2))) js = lv') (hq : pc + 3 = q) (kk : ms_At p l e R s m args below meth c nL G cy A L cells slots Q E u (q) lv' (st)) : ms_At p l e R s m args below meth c nL G cy A L cells slots Q E u (pc) lv (st) := by
  subst hq
  exact fun H locs ls hw hS hl => lv_iinc C.1.1 C.1.2.1 hdg hl hj0 hv hn rfl (fun ls' hl' => kk H locs ls' hw hS (lv_sub hl' js hj))
theorem a_iadd (C : ms_Cx p m c cc nL s args c0 own G cy A) {x y : Int32} (hdg : decode cc pc = .ok (.iadd, 1)) (hq : pc + 1 = q) (kk : ms_At p l e R s m args below meth c nL G cy A L cells slots Q E u (q) lv (.int (x + y) :: st)) : ms_At p l e R s m args below meth c nL G cy A L cells slots Q E u (pc) lv (.int y :: .int x :: st) := by
  subst hq
  exact fun H locs ls hw hS hl => lv_iadd C.1.1 C.1.2.1 hdg (kk H locs ls hw hS hl)
theorem a_isub (C : ms_Cx p m c cc nL s args c0 own G cy A) {x y : Int32} (hdg : decode cc pc = .ok (.isub, 1)) (hq : pc + 1 = q) (kk : ms_At p l e R s m args below meth c nL G cy A L cells slots Q E u (q) lv (.int (x - y) :: st)) : ms_At p l e R s m args below meth c nL G cy A L cells slots Q E u (pc) lv (.int y :: .int x :: st) := by
  subst hq
  exact fun H locs ls hw hS hl => lv_isub C.1.1 C.1.2.1 hdg (kk H locs ls hw hS hl)
theorem a_imul (C : ms_Cx p m c cc nL s args c0 own G cy A) {x y : Int32} (hdg : decode cc pc = .ok (.imul, 1)) (hq : pc + 1 = q) (kk : ms_At p l e R s m args below meth c nL G cy A L cells slots Q E u (q) lv (.int (x * y) :: st)) : ms_At p l e R s m args below meth c nL G cy A L cells slots Q E u (pc) lv (.int y :: .int x :: st) := by
  subst hq
  exact fun H locs ls hw hS hl => lv_imul C.1.1 C.1.2.1 hdg (kk H locs ls hw hS hl)
theorem a_iand (C : ms_Cx p m c cc nL s args c0 own G cy A) {x y : Int32} (hdg : decode cc pc = .ok (.iand, 1)) (hq : pc + 1 = q) (kk : ms_At p l e R s m args below meth c nL G cy A L cells slots Q E u (q) lv (.int (x &&& y) :: st)) : ms_At p l e R s m args below meth c nL G cy A L cells slots Q E u (pc) lv (.int y :: .int x :: st) := by
  subst hq
  exact fun H locs ls hw hS hl => lv_iand C.1.1 C.1.2.1 hdg (kk H locs ls hw hS hl)
theorem a_ior (C : ms_Cx p m c cc nL s args c0 own G cy A) {x y : Int32} (hdg : decode cc pc = .ok (.ior, 1)) (hq : pc + 1 = q) (kk : ms_At p l e R s m args below meth c nL G cy A L cells slots Q E u (q) lv (.int (x ||| y) :: st)) : ms_At p l e R s m args below meth c nL G cy A L cells slots Q E u (pc) lv (.int y :: .int x :: st) := by
  subst hq
  exact fun H locs ls hw hS hl => lv_ior C.1.1 C.1.2.1 hdg (kk H locs ls hw hS hl)
theorem a_ixor (C : ms_Cx p m c cc nL s args c0 own G cy A) {x y : Int32} (hdg : decode cc pc = .ok (.ixor, 1)) (hq : pc + 1 = q) (kk : ms_At p l e R s m args below meth c nL G cy A L cells slots Q E u (q) lv (.int (x ^^^ y) :: st)) : ms_At p l e R s m args below meth c nL G cy A L cells slots Q E u (pc) lv (.int y :: .int x :: st) := by
  subst hq
  exact fun H locs ls hw hS hl => lv_ixor C.1.1 C.1.2.1 hdg (kk H locs ls hw hS hl)
theorem a_ishl (C : ms_Cx p m c cc nL s args c0 own G cy A) {x y : Int32} (hdg : decode cc pc = .ok (.ishl, 1)) (hq : pc + 1 = q) (kk : ms_At p l e R s m args below meth c nL G cy A L cells slots Q E u (q) lv (.int (x <<< (y &&& 31)) :: st)) : ms_At p l e R s m args below meth c nL G cy A L cells slots Q E u (pc) lv (.int y :: .int x :: st) := by
  subst hq
  exact fun H locs ls hw hS hl => lv_ishl C.1.1 C.1.2.1 hdg (kk H locs ls hw hS hl)
theorem a_ishr (C : ms_Cx p m c cc nL s args c0 own G cy A) {x y : Int32} (hdg : decode cc pc = .ok (.ishr, 1)) (hq : pc + 1 = q) (kk : ms_At p l e R s m args below meth c nL G cy A L cells slots Q E u (q) lv (.int (x >>> (y &&& 31)) :: st)) : ms_At p l e R s m args below meth c nL G cy A L cells slots Q E u (pc) lv (.int y :: .int x :: st) := by
  subst hq
  exact fun H locs ls hw hS hl => lv_ishr C.1.1 C.1.2.1 hdg (kk H locs ls hw hS hl)
theorem a_iushr (C : ms_Cx p m c cc nL s args c0 own G cy A) {x y : Int32} (hdg : decode cc pc = .ok (.iushr, 1)) (hq : pc + 1 = q) (kk : ms_At p l e R s m args below meth c nL G cy A L cells slots Q E u (q) lv (.int ((x.toUInt32 >>> (y.toUInt32 &&& Int32.toUInt32 31)).toInt32) :: st)) : ms_At p l e R s m args below meth c nL G cy A L cells slots Q E u (pc) lv (.int y :: .int x :: st) := by
  subst hq
  exact fun H locs ls hw hS hl => lv_iushr C.1.1 C.1.2.1 hdg rfl (kk H locs ls hw hS hl)
theorem a_ineg (C : ms_Cx p m c cc nL s args c0 own G cy A) {x : Int32} (hdg : decode cc pc = .ok (.ineg, 1)) (hq : pc + 1 = q) (kk : ms_At p l e R s m args below meth c nL G cy A L cells slots Q E u (q) lv (.int (-x) :: st)) : ms_At p l e R s m args below meth c nL G cy A L cells slots Q E u (pc) lv (.int x :: st) := by
  subst hq
  exact fun H locs ls hw hS hl => lv_ineg C.1.1 C.1.2.1 hdg (kk H locs ls hw hS hl)
theorem a_idiv (C : ms_Cx p m c cc nL s args c0 own G cy A) {x y : Int32} (hdg : decode cc pc = .ok (.idiv, 1)) (hne : ¬ y = 0) (hq : pc + 1 = q) (kk : ms_At p l e R s m args below meth c nL G cy A L cells slots Q E u (q) lv (.int (x / y) :: st)) : ms_At p l e R s m args below meth c nL G cy A L cells slots Q E u (pc) lv (.int y :: .int x :: st) := by
  subst hq
  exact fun H locs ls hw hS hl => lv_idiv C.1.1 C.1.2.1 hdg hne (kk H locs ls hw hS hl)
theorem a_irem (C : ms_Cx p m c cc nL s args c0 own G cy A) {x y : Int32} (hdg : decode cc pc = .ok (.irem, 1)) (hne : ¬ y = 0) (hq : pc + 1 = q) (kk : ms_At p l e R s m args below meth c nL G cy A L cells slots Q E u (q) lv (.int (x - x / y * y) :: st)) : ms_At p l e R s m args below meth c nL G cy A L cells slots Q E u (pc) lv (.int y :: .int x :: st) := by
  subst hq
  exact fun H locs ls hw hS hl => lv_irem C.1.1 C.1.2.1 hdg hne (kk H locs ls hw hS hl)
theorem a_ladd (C : ms_Cx p m c cc nL s args c0 own G cy A) {x y : Int64} (hdg : decode cc pc = .ok (.ladd, 1)) (hq : pc + 1 = q) (kk : ms_At p l e R s m args below meth c nL G cy A L cells slots Q E u (q) lv (.long (x + y) :: st)) : ms_At p l e R s m args below meth c nL G cy A L cells slots Q E u (pc) lv (.long y :: .long x :: st) := by
  subst hq
  exact fun H locs ls hw hS hl => lv_ladd C.1.1 C.1.2.1 hdg (kk H locs ls hw hS hl)
theorem a_lsub (C : ms_Cx p m c cc nL s args c0 own G cy A) {x y : Int64} (hdg : decode cc pc = .ok (.lsub, 1)) (hq : pc + 1 = q) (kk : ms_At p l e R s m args below meth c nL G cy A L cells slots Q E u (q) lv (.long (x - y) :: st)) : ms_At p l e R s m args below meth c nL G cy A L cells slots Q E u (pc) lv (.long y :: .long x :: st) := by
  subst hq
  exact fun H locs ls hw hS hl => lv_lsub C.1.1 C.1.2.1 hdg (kk H locs ls hw hS hl)
theorem a_lmul (C : ms_Cx p m c cc nL s args c0 own G cy A) {x y : Int64} (hdg : decode cc pc = .ok (.lmul, 1)) (hq : pc + 1 = q) (kk : ms_At p l e R s m args below meth c nL G cy A L cells slots Q E u (q) lv (.long (x * y) :: st)) : ms_At p l e R s m args below meth c nL G cy A L cells slots Q E u (pc) lv (.long y :: .long x :: st) := by
  subst hq
  exact fun H locs ls hw hS hl => lv_lmul C.1.1 C.1.2.1 hdg (kk H locs ls hw hS hl)
theorem a_ldiv (C : ms_Cx p m c cc nL s args c0 own G cy A) {x y : Int64} (hdg : decode cc pc = .ok (.ldiv, 1)) (hne : ¬ y = 0) (hq : pc + 1 = q) (kk : ms_At p l e R s m args below meth c nL G cy A L cells slots Q E u (q) lv (.long (x / y) :: st)) : ms_At p l e R s m args below meth c nL G cy A L cells slots Q E u (pc) lv (.long y :: .long x :: st) := by
  subst hq
  exact fun H locs ls hw hS hl => lv_ldiv C.1.1 C.1.2.1 hdg hne (kk H locs ls hw hS hl)
theorem a_lcmp (C : ms_Cx p m c cc nL s args c0 own G cy A) {x y : Int64} (hdg : decode cc pc = .ok (.lcmp, 1)) (hq : pc + 1 = q) (kk : ms_At p l e R s m args below meth c nL G cy A L cells slots Q E u (q) lv (.int (lg_cmp x y) :: st)) : ms_At p l e R s m args below meth c nL G cy A L cells slots Q E u (pc) lv (.long y :: .long x :: st) := by
  subst hq
  exact fun H locs ls hw hS hl => W.lcmp C.1.1 C.1.2.1 hdg (kk H locs ls hw hS hl)
theorem a_i2l (C : ms_Cx p m c cc nL s args c0 own G cy A) {x : Int32} (hdg : decode cc pc = .ok (.i2l, 1)) (hq : pc + 1 = q) (kk : ms_At p l e R s m args below meth c nL G cy A L cells slots Q E u (q) lv (.long (x.toInt64) :: st)) : ms_At p l e R s m args below meth c nL G cy A L cells slots Q E u (pc) lv (.int x :: st) := by
  subst hq
  exact fun H locs ls hw hS hl => lv_i2l C.1.1 C.1.2.1 hdg rfl (kk H locs ls hw hS hl)
theorem a_l2i (C : ms_Cx p m c cc nL s args c0 own G cy A) {x : Int64} (hdg : decode cc pc = .ok (.l2i, 1)) (hq : pc + 1 = q) (kk : ms_At p l e R s m args below meth c nL G cy A L cells slots Q E u (q) lv (.int (x.toInt32) :: st)) : ms_At p l e R s m args below meth c nL G cy A L cells slots Q E u (pc) lv (.long x :: st) := by
  subst hq
  exact fun H locs ls hw hS hl => lv_l2i C.1.1 C.1.2.1 hdg rfl (kk H locs ls hw hS hl)
theorem a_i2b (C : ms_Cx p m c cc nL s args c0 own G cy A) {x : Int32} (hdg : decode cc pc = .ok (.i2b, 1)) (hq : pc + 1 = q) (kk : ms_At p l e R s m args below meth c nL G cy A L cells slots Q E u (q) lv (.int (x.toInt8.toInt32) :: st)) : ms_At p l e R s m args below meth c nL G cy A L cells slots Q E u (pc) lv (.int x :: st) := by
  subst hq
  exact fun H locs ls hw hS hl => lv_i2b C.1.1 C.1.2.1 hdg rfl (kk H locs ls hw hS hl)
theorem a_dup (C : ms_Cx p m c cc nL s args c0 own G cy A) {va : Value} (hdg : decode cc pc = .ok (.dup, 1)) (hva : va.category = 1) (hq : pc + 1 = q) (kk : ms_At p l e R s m args below meth c nL G cy A L cells slots Q E u (q) lv (va :: va :: st)) : ms_At p l e R s m args below meth c nL G cy A L cells slots Q E u (pc) lv (va :: st) := by
  subst hq
  exact fun H locs ls hw hS hl => lv_dup C.1.1 C.1.2.1 hdg hva (kk H locs ls hw hS hl)
theorem a_pop (C : ms_Cx p m c cc nL s args c0 own G cy A) {va : Value} (hdg : decode cc pc = .ok (.pop, 1)) (hva : va.category = 1) (hq : pc + 1 = q) (kk : ms_At p l e R s m args below meth c nL G cy A L cells slots Q E u (q) lv (st)) : ms_At p l e R s m args below meth c nL G cy A L cells slots Q E u (pc) lv (va :: st) := by
  subst hq
  exact fun H locs ls hw hS hl => lv_pop C.1.1 C.1.2.1 hdg hva (kk H locs ls hw hS hl)
theorem a_dup2 (C : ms_Cx p m c cc nL s args c0 own G cy A) {va vb : Value} (hdg : decode cc pc = .ok (.dup2, 1)) (hva : va.category = 1) (hvb : vb.category = 1) (hq : pc + 1 = q) (kk : ms_At p l e R s m args below meth c nL G cy A L cells slots Q E u (q) lv (va :: vb :: va :: vb :: st)) : ms_At p l e R s m args below meth c nL G cy A L cells slots Q E u (pc) lv (va :: vb :: st) := by
  subst hq
  exact fun H locs ls hw hS hl => lv_dup2_11 C.1.1 C.1.2.1 hdg hva hvb (kk H locs ls hw hS hl)
theorem a_dup_x1 (C : ms_Cx p m c cc nL s args c0 own G cy A) {va vb : Value} (hdg : decode cc pc = .ok (.dup_x1, 1)) (hva : va.category = 1) (hvb : vb.category = 1) (hq : pc + 1 = q) (kk : ms_At p l e R s m args below meth c nL G cy A L cells slots Q E u (q) lv (va :: vb :: va :: st)) : ms_At p l e R s m args below meth c nL G cy A L cells slots Q E u (pc) lv (va :: vb :: st) := by
  subst hq
  exact fun H locs ls hw hS hl => lv_dup_x1 C.1.1 C.1.2.1 hdg hva hvb (kk H locs ls hw hS hl)
theorem a_dup_x2 (C : ms_Cx p m c cc nL s args c0 own G cy A) {va vb vd : Value} (hdg : decode cc pc = .ok (.dup_x2, 1)) (hva : va.category = 1) (hvb : vb.category = 1) (hvd : vd.category = 1) (hq : pc + 1 = q) (kk : ms_At p l e R s m args below meth c nL G cy A L cells slots Q E u (q) lv (va :: vb :: vd :: va :: st)) : ms_At p l e R s m args below meth c nL G cy A L cells slots Q E u (pc) lv (va :: vb :: vd :: st) := by
  subst hq
  exact fun H locs ls hw hS hl => lv_dup_x2 C.1.1 C.1.2.1 hdg hva hvb hvd (kk H locs ls hw hS hl)
theorem a_if_eq (C : ms_Cx p m c cc nL s args c0 own G cy A) {x : Int32} {off : Int} {tgt : Nat} (hdg : decode cc pc = .ok (.ifCond .eq off, 3)) (ht : (pc : Int) + off = (tgt : Int)) (hq : pc + 3 = q) (kt : x = 0 → ms_At p l e R s m args below meth c nL G cy A L cells slots Q E u (tgt) lv (st)) (kf : ¬ x = 0 → ms_At p l e R s m args below meth c nL G cy A L cells slots Q E u (q) lv (st)) : ms_At p l e R s m args below meth c nL G cy A L cells slots Q E u (pc) lv (.int x :: st) := by
  subst hq
  exact fun H locs ls hw hS hl => lv_if_eq C.1.1 C.1.2.1 hdg ht (fun h => kt h H locs ls hw hS hl) (fun h => kf h H locs ls hw hS hl)
theorem a_if_ne (C : ms_Cx p m c cc nL s args c0 own G cy A) {x : Int32} {off : Int} {tgt : Nat} (hdg : decode cc pc = .ok (.ifCond .ne off, 3)) (ht : (pc : Int) + off = (tgt : Int)) (hq : pc + 3 = q) (kt : ¬ x = 0 → ms_At p l e R s m args below meth c nL G cy A L cells slots Q E u (tgt) lv (st)) (kf : x = 0 → ms_At p l e R s m args below meth c nL G cy A L cells slots Q E u (q) lv (st)) : ms_At p l e R s m args below meth c nL G cy A L cells slots Q E u (pc) lv (.int x :: st) := by
  subst hq
  exact fun H locs ls hw hS hl => lv_if_ne C.1.1 C.1.2.1 hdg ht (fun h => kt h H locs ls hw hS hl) (fun h => kf h H locs ls hw hS hl)
theorem a_if_lt (C : ms_Cx p m c cc nL s args c0 own G cy A) {x : Int32} {off : Int} {tgt : Nat} (hdg : decode cc pc = .ok (.ifCond .lt off, 3)) (ht : (pc : Int) + off = (tgt : Int)) (hq : pc + 3 = q) (kt : x < 0 → ms_At p l e R s m args below meth c nL G cy A L cells slots Q E u (tgt) lv (st)) (kf : ¬ x < 0 → ms_At p l e R s m args below meth c nL G cy A L cells slots Q E u (q) lv (st)) : ms_At p l e R s m args below meth c nL G cy A L cells slots Q E u (pc) lv (.int x :: st) := by
  subst hq
  exact fun H locs ls hw hS hl => lv_if_lt C.1.1 C.1.2.1 hdg ht (fun h => kt h H locs ls hw hS hl) (fun h => kf h H locs ls hw hS hl)
theorem a_if_ge (C : ms_Cx p m c cc nL s args c0 own G cy A) {x : Int32} {off : Int} {tgt : Nat} (hdg : decode cc pc = .ok (.ifCond .ge off, 3)) (ht : (pc : Int) + off = (tgt : Int)) (hq : pc + 3 = q) (kt : 0 ≤ x → ms_At p l e R s m args below meth c nL G cy A L cells slots Q E u (tgt) lv (st)) (kf : ¬ 0 ≤ x → ms_At p l e R s m args below meth c nL G cy A L cells slots Q E u (q) lv (st)) : ms_At p l e R s m args below meth c nL G cy A L cells slots Q E u (pc) lv (.int x :: st) := by
  subst hq
  exact fun H locs ls hw hS hl => lv_if_ge C.1.1 C.1.2.1 hdg ht (fun h => kt h H locs ls hw hS hl) (fun h => kf h H locs ls hw hS hl)
theorem a_if_gt (C : ms_Cx p m c cc nL s args c0 own G cy A) {x : Int32} {off : Int} {tgt : Nat} (hdg : decode cc pc = .ok (.ifCond .gt off, 3)) (ht : (pc : Int) + off = (tgt : Int)) (hq : pc + 3 = q) (kt : 0 < x → ms_At p l e R s m args below meth c nL G cy A L cells slots Q E u (tgt) lv (st)) (kf : ¬ 0 < x → ms_At p l e R s m args below meth c nL G cy A L cells slots Q E u (q) lv (st)) : ms_At p l e R s m args below meth c nL G cy A L cells slots Q E u (pc) lv (.int x :: st) := by
  subst hq
  exact fun H locs ls hw hS hl => lv_if_gt C.1.1 C.1.2.1 hdg ht (fun h => kt h H locs ls hw hS hl) (fun h => kf h H locs ls hw hS hl)
theorem a_if_le (C : ms_Cx p m c cc nL s args c0 own G cy A) {x : Int32} {off : Int} {tgt : Nat} (hdg : decode cc pc = .ok (.ifCond .le off, 3)) (ht : (pc : Int) + off = (tgt : Int)) (hq : pc + 3 = q) (kt : x ≤ 0 → ms_At p l e R s m args below meth c nL G cy A L cells slots Q E u (tgt) lv (st)) (kf : ¬ x ≤ 0 → ms_At p l e R s m args below meth c nL G cy A L cells slots Q E u (q) lv (st)) : ms_At p l e R s m args below meth c nL G cy A L cells slots Q E u (pc) lv (.int x :: st) := by
  subst hq
  exact fun H locs ls hw hS hl => lv_if_le C.1.1 C.1.2.1 hdg ht (fun h => kt h H locs ls hw hS hl) (fun h => kf h H locs ls hw hS hl)
theorem a_icmp_eq (C : ms_Cx p m c cc nL s args c0 own G cy A) {x y : Int32} {off : Int} {tgt : Nat} (hdg : decode cc pc = .ok (.if_icmp .eq off, 3)) (ht : (pc : Int) + off = (tgt : Int)) (hq : pc + 3 = q) (kt : x = y → ms_At p l e R s m args below meth c nL G cy A L cells slots Q E u (tgt) lv (st)) (kf : ¬ x = y → ms_At p l e R s m args below meth c nL G cy A L cells slots Q E u (q) lv (st)) : ms_At p l e R s m args below meth c nL G cy A L cells slots Q E u (pc) lv (.int y :: .int x :: st) := by
  subst hq
  exact fun H locs ls hw hS hl => lv_icmp_eq C.1.1 C.1.2.1 hdg ht (fun h => kt h H locs ls hw hS hl) (fun h => kf h H locs ls hw hS hl)
theorem a_icmp_ne (C : ms_Cx p m c cc nL s args c0 own G cy A) {x y : Int32} {off : Int} {tgt : Nat} (hdg : decode cc pc = .ok (.if_icmp .ne off, 3)) (ht : (pc : Int) + off = (tgt : Int)) (hq : pc + 3 = q) (kt : ¬ x = y → ms_At p l e R s m args below meth c nL G cy A L cells slots Q E u (tgt) lv (st)) (kf : x = y → ms_At p l e R s m args below meth c nL G cy A L cells slots Q E u (q) lv (st)) : ms_At p l e R s m args below meth c nL G cy A L cells slots Q E u (pc) lv (.int y :: .int x :: st) := by
  subst hq
  exact fun H locs ls hw hS hl => lv_icmp_ne C.1.1 C.1.2.1 hdg ht (fun h => kt h H locs ls hw hS hl) (fun h => kf h H locs ls hw hS hl)
theorem a_icmp_lt (C : ms_Cx p m c cc nL s args c0 own G cy A) {x y : Int32} {off : Int} {tgt : Nat} (hdg : decode cc pc = .ok (.if_icmp .lt off, 3)) (ht : (pc : Int) + off = (tgt : Int)) (hq : pc + 3 = q) (kt : x < y → ms_At p l e R s m args below meth c nL G cy A L cells slots Q E u (tgt) lv (st)) (kf : ¬ x < y → ms_At p l e R s m args below meth c nL G cy A L cells slots Q E u (q) lv (st)) : ms_At p l e R s m args below meth c nL G cy A L cells slots Q E u (pc) lv (.int y :: .int x :: st) := by
  subst hq
  exact fun H locs ls hw hS hl => lv_icmp_lt C.1.1 C.1.2.1 hdg ht (fun h => kt h H locs ls hw hS hl) (fun h => kf h H locs ls hw hS hl)
theorem a_icmp_ge (C : ms_Cx p m c cc nL s args c0 own G cy A) {x y : Int32} {off : Int} {tgt : Nat} (hdg : decode cc pc = .ok (.if_icmp .ge off, 3)) (ht : (pc : Int) + off = (tgt : Int)) (hq : pc + 3 = q) (kt : y ≤ x → ms_At p l e R s m args below meth c nL G cy A L cells slots Q E u (tgt) lv (st)) (kf : ¬ y ≤ x → ms_At p l e R s m args below meth c nL G cy A L cells slots Q E u (q) lv (st)) : ms_At p l e R s m args below meth c nL G cy A L cells slots Q E u (pc) lv (.int y :: .int x :: st) := by
  subst hq
  exact fun H locs ls hw hS hl => lv_icmp_ge C.1.1 C.1.2.1 hdg ht (fun h => kt h H locs ls hw hS hl) (fun h => kf h H locs ls hw hS hl)
theorem a_icmp_gt (C : ms_Cx p m c cc nL s args c0 own G cy A) {x y : Int32} {off : Int} {tgt : Nat} (hdg : decode cc pc = .ok (.if_icmp .gt off, 3)) (ht : (pc : Int) + off = (tgt : Int)) (hq : pc + 3 = q) (kt : y < x → ms_At p l e R s m args below meth c nL G cy A L cells slots Q E u (tgt) lv (st)) (kf : ¬ y < x → ms_At p l e R s m args below meth c nL G cy A L cells slots Q E u (q) lv (st)) : ms_At p l e R s m args below meth c nL G cy A L cells slots Q E u (pc) lv (.int y :: .int x :: st) := by
  subst hq
  exact fun H locs ls hw hS hl => lv_icmp_gt C.1.1 C.1.2.1 hdg ht (fun h => kt h H locs ls hw hS hl) (fun h => kf h H locs ls hw hS hl)
theorem a_icmp_le (C : ms_Cx p m c cc nL s args c0 own G cy A) {x y : Int32} {off : Int} {tgt : Nat} (hdg : decode cc pc = .ok (.if_icmp .le off, 3)) (ht : (pc : Int) + off = (tgt : Int)) (hq : pc + 3 = q) (kt : x ≤ y → ms_At p l e R s m args below meth c nL G cy A L cells slots Q E u (tgt) lv (st)) (kf : ¬ x ≤ y → ms_At p l e R s m args below meth c nL G cy A L cells slots Q E u (q) lv (st)) : ms_At p l e R s m args below meth c nL G cy A L cells slots Q E u (pc) lv (.int y :: .int x :: st) := by
  subst hq
  exact fun H locs ls hw hS hl => lv_icmp_le C.1.1 C.1.2.1 hdg ht (fun h => kt h H locs ls hw hS hl) (fun h => kf h H locs ls hw hS hl)
theorem a_goto (C : ms_Cx p m c cc nL s args c0 own G cy A) {off : Int} {tgt : Nat} (hdg : decode cc pc = .ok (.goto off, 3)) (ht : (pc : Int) + off = (tgt : Int)) (kk : ms_At p l e R s m args below meth c nL G cy A L cells slots Q E u (tgt) lv (st)) : ms_At p l e R s m args below meth c nL G cy A L cells slots Q E u (pc) lv (st) :=
  fun H locs ls hw hS hl => lv_goto C.1.1 C.1.2.1 hdg ht (kk H locs ls hw hS hl)
theorem a_getI (C : ms_Cx p m c cc nL s args c0 own G cy A) {Cn : String} {T : u_T} {N ci : Nat} (hin : ∀ w ∈ u_ws Cn T N, w ∈ lw_g) (hc : vwCl[ci]? = some (Cn, T, N)) (hci : ci < 12) {index o k : Nat} (hdg : decode cc pc = .ok (.getfield index, 3)) (ho : ms_is E o ci) (hk : k < N) (hkl : k < (ms_fT ci).length) (hf : (ms_fT ci).getD k 0 = 0) (h9 : Cond.fieldLink own index (T k).1 (T k).2.1 (T k).2.2.1 ∈ lw_g) (hq : pc + 3 = q) (kk : ms_At p l e R s m args below meth c nL G cy A L cells slots Q E u (q) lv (.int (ms_I u o k) :: st)) : ms_At p l e R s m args below meth c nL G cy A L cells slots Q E u (pc) lv (.ref (L o) :: st) := by
  subst hq
  exact fun H locs ls hw hS hl => va_get C.1.1 C.1.2.1 C.1.2.2.2.2 (fun w h => List.mem_cons_of_mem _ (hin w h)) C.1.2.2.2.1 C.2.1 hw.1 o (by rw [ms_ws_get ho.1, ms_cell_o ho.2 hci]) hc k hk (C.1.2.2.2.2 _ (List.mem_cons_of_mem _ h9)) (fun _ h => h) (by rw [ms_fs_get hkl, ms_fv_I hf]) hdg (kk H locs ls hw hS hl)
theorem a_getR (C : ms_Cx p m c cc nL s args c0 own G cy A) {Cn : String} {T : u_T} {N ci : Nat} (hin : ∀ w ∈ u_ws Cn T N, w ∈ lw_g) (hc : vwCl[ci]? = some (Cn, T, N)) (hci : ci < 12) {index o k b : Nat} (hdg : decode cc pc = .ok (.getfield index, 3)) (ho : ms_is E o ci) (hk : k < N) (hkl : k < (ms_fT ci).length) (hf : (ms_fT ci).getD k 0 = 1) (h9 : Cond.fieldLink own index (T k).1 (T k).2.1 (T k).2.2.1 ∈ lw_g) (hb9 : ms_R E o k = some b) (hq : pc + 3 = q) (kk : ms_At p l e R s m args below meth c nL G cy A L cells slots Q E u (q) lv (.ref (L b) :: st)) : ms_At p l e R s m args below meth c nL G cy A L cells slots Q E u (pc) lv (.ref (L o) :: st) := by
  subst hq
  exact fun H locs ls hw hS hl => va_get C.1.1 C.1.2.1 C.1.2.2.2.2 (fun w h => List.mem_cons_of_mem _ (hin w h)) C.1.2.2.2.1 C.2.1 hw.1 o (by rw [ms_ws_get ho.1, ms_cell_o ho.2 hci]) hc k hk (C.1.2.2.2.2 _ (List.mem_cons_of_mem _ h9)) (fun _ h => h) (by rw [ms_fs_get hkl, ms_fv_R hf, hb9]; rfl) hdg (kk H locs ls hw hS hl)
theorem a_putI (C : ms_Cx p m c cc nL s args c0 own G cy A) {Cn : String} {T : u_T} {N ci : Nat} (hin : ∀ w ∈ u_ws Cn T N, w ∈ lw_g) (hc : vwCl[ci]? = some (Cn, T, N)) (hci : ci < 12) (ty0 : Nat → FieldType) (hty : ∀ k, k < N → parseFieldDescriptor (T k).2.2.1 = some (ty0 k)) (hnm : ∀ a, a < N → ∀ b, b < N → a ≠ b → (T a).2.1 ≠ (T b).2.1) {index o k : Nat} {v : Int32} {ty : FieldType} (hdg : decode cc pc = .ok (.putfield index, 3)) (ho : ms_is E o ci) (hk : k < N) (hkl : k < (ms_fT ci).length) (hf : (ms_fT ci).getD k 0 = 0) (h9 : Cond.fieldLink own index (T k).1 (T k).2.1 (T k).2.2.1 ∈ lw_g) (hfin : (T k).2.2.2 = false) (hd : parseFieldDescriptor (T k).2.2.1 = some ty) (hn : narrow ty (.int v) = .int v) (hfit : fits ty (.int v) = true) (hm6 : ci ≠ 6 ∨ k ≠ 3) (hq : pc + 3 = q) (kk : ms_At p l e R s m args below meth c nL G cy A L cells slots Q E (ms_sI u o k v) (q) lv (st)) : ms_At p l e R s m args below meth c nL G cy A L cells slots Q E u (pc) lv (.int v :: .ref (L o) :: st) := by
  subst hq
  intro H locs ls hw hS hl
  refine va_put C.1.1 C.1.2.1 C.1.2.2.2.2 (fun w h => List.mem_cons_of_mem _ (hin w h)) ty0 hty hnm C.1.2.2.2.1 C.2.1 hw.1 hw.2.1 hS o (by rw [ms_ws_get ho.1, ms_cell_o ho.2 hci]) hc k hk (C.1.2.2.2.2 _ (List.mem_cons_of_mem _ h9)) (fun _ h => h) hfin hd hn hfit (by simp [ms_fs, hkl]) hdg (fun H1 locs1 h1 h2 h3 => kk H1 locs1 ls ⟨?_, ?_, ms_Cl_kd hw.2.2 ho hm6⟩ h3 hl)
  · rw [ms_fs_setI hf, ← ms_cell_o (cy := cy) (u := ms_sI u o k v) ho.2 hci, ms_ws_sI] at h1; exact h1
  · rw [ms_fs_setI hf, ← ms_cell_o (cy := cy) (u := ms_sI u o k v) ho.2 hci, ms_ws_sI] at h2; exact h2
theorem a_putR (C : ms_Cx p m c cc nL s args c0 own G cy A) {Cn : String} {T : u_T} {N ci : Nat} (hin : ∀ w ∈ u_ws Cn T N, w ∈ lw_g) (hc : vwCl[ci]? = some (Cn, T, N)) (hci : ci < 12) (ty0 : Nat → FieldType) (hty : ∀ k, k < N → parseFieldDescriptor (T k).2.2.1 = some (ty0 k)) (hnm : ∀ a, a < N → ∀ b, b < N → a ≠ b → (T a).2.1 ≠ (T b).2.1) {index o k b : Nat} {ty : FieldType} (hdg : decode cc pc = .ok (.putfield index, 3)) (ho : ms_is E o ci) (hk : k < N) (hkl : k < (ms_fT ci).length) (hf : (ms_fT ci).getD k 0 = 1) (h9 : Cond.fieldLink own index (T k).1 (T k).2.1 (T k).2.2.1 ∈ lw_g) (hfin : (T k).2.2.2 = false) (hd : parseFieldDescriptor (T k).2.2.1 = some ty) (hn : narrow ty (.ref (L b)) = .ref (L b)) (hfit : fits ty (.ref (L b)) = true) (hb9 : b < ms_Z E) (hq : pc + 3 = q) (kk : ms_At p l e R s m args below meth c nL G cy A L cells slots Q (ms_sR E o k (some b)) u (q) lv (st)) : ms_At p l e R s m args below meth c nL G cy A L cells slots Q E u (pc) lv (.ref (L b) :: .ref (L o) :: st) := by
  subst hq
  intro H locs ls hw hS hl
  refine va_put C.1.1 C.1.2.1 C.1.2.2.2.2 (fun w h => List.mem_cons_of_mem _ (hin w h)) ty0 hty hnm C.1.2.2.2.1 C.2.1 hw.1 hw.2.1 hS o (by rw [ms_ws_get ho.1, ms_cell_o ho.2 hci]) hc k hk (C.1.2.2.2.2 _ (List.mem_cons_of_mem _ h9)) (fun _ h => h) hfin hd hn hfit (by simp [ms_fs, hkl]) hdg (fun H1 locs1 h1 h2 h3 => kk H1 locs1 ls ⟨?_, ?_, ms_Cl_sR hw.2.2 (fun _ h => by cases h; exact hb9)⟩ h3 hl)
  · rw [show Value.ref (L b) = va_rf ((some b).map L) from rfl, ms_fs_setR hf, ← ms_cell_o (cy := cy) (E := ms_sR E o k (some b)) ho.2 hci, ms_ws_sR] at h1; exact h1
  · rw [show Value.ref (L b) = va_rf ((some b).map L) from rfl, ms_fs_setR hf, ← ms_cell_o (cy := cy) (E := ms_sR E o k (some b)) ho.2 hci, ms_ws_sR] at h2; exact h2
theorem a_putFI (C : ms_Cx p m c cc nL s args c0 own G cy A) {Cn : String} {T : u_T} {N ci : Nat} (hin : ∀ w ∈ u_ws Cn T N, w ∈ lw_g) (hc : vwCl[ci]? = some (Cn, T, N)) (hci : ci < 12) (ty0 : Nat → FieldType) (hty : ∀ k, k < N → parseFieldDescriptor (T k).2.2.1 = some (ty0 k)) (hnm : ∀ a, a < N → ∀ b, b < N → a ≠ b → (T a).2.1 ≠ (T b).2.1) {index o k : Nat} {v : Int32} {ty : FieldType} (hdg : decode cc pc = .ok (.putfield index, 3)) (ho : ms_is E o ci) (hk : k < N) (hkl : k < (ms_fT ci).length) (hf : (ms_fT ci).getD k 0 = 0) (h9 : Cond.fieldLink own index (T k).1 (T k).2.1 (T k).2.2.1 ∈ lw_g) (hfin : (T k).2.2.2 = true) (hin2 : meth.name = "<init>") (hdecl : (T k).1 = own) (hd : parseFieldDescriptor (T k).2.2.1 = some ty) (hn : narrow ty (.int v) = .int v) (hfit : fits ty (.int v) = true) (hm6 : ci ≠ 6 ∨ k ≠ 3) (hq : pc + 3 = q) (kk : ms_At p l e R s m args below meth c nL G cy A L cells slots Q E (ms_sI u o k v) (q) lv (st)) : ms_At p l e R s m args below meth c nL G cy A L cells slots Q E u (pc) lv (.int v :: .ref (L o) :: st) := by
  subst hq
  intro H locs ls hw hS hl
  refine va_putF C.1.1 C.1.2.1 C.1.2.2.2.2 (fun w h => List.mem_cons_of_mem _ (hin w h)) ty0 hty hnm C.1.2.2.2.1 C.2.1 hw.1 hw.2.1 hS o (by rw [ms_ws_get ho.1, ms_cell_o ho.2 hci]) hc k hk (C.1.2.2.2.2 _ (List.mem_cons_of_mem _ h9)) (fun _ h => h) hfin hin2 hdecl hd hn hfit (by simp [ms_fs, hkl]) hdg (fun H1 locs1 h1 h2 h3 => kk H1 locs1 ls ⟨?_, ?_, ms_Cl_kd hw.2.2 ho hm6⟩ h3 hl)
  · rw [ms_fs_setI hf, ← ms_cell_o (cy := cy) (u := ms_sI u o k v) ho.2 hci, ms_ws_sI] at h1; exact h1
  · rw [ms_fs_setI hf, ← ms_cell_o (cy := cy) (u := ms_sI u o k v) ho.2 hci, ms_ws_sI] at h2; exact h2
theorem a_putFR (C : ms_Cx p m c cc nL s args c0 own G cy A) {Cn : String} {T : u_T} {N ci : Nat} (hin : ∀ w ∈ u_ws Cn T N, w ∈ lw_g) (hc : vwCl[ci]? = some (Cn, T, N)) (hci : ci < 12) (ty0 : Nat → FieldType) (hty : ∀ k, k < N → parseFieldDescriptor (T k).2.2.1 = some (ty0 k)) (hnm : ∀ a, a < N → ∀ b, b < N → a ≠ b → (T a).2.1 ≠ (T b).2.1) {index o k b : Nat} {ty : FieldType} (hdg : decode cc pc = .ok (.putfield index, 3)) (ho : ms_is E o ci) (hk : k < N) (hkl : k < (ms_fT ci).length) (hf : (ms_fT ci).getD k 0 = 1) (h9 : Cond.fieldLink own index (T k).1 (T k).2.1 (T k).2.2.1 ∈ lw_g) (hfin : (T k).2.2.2 = true) (hin2 : meth.name = "<init>") (hdecl : (T k).1 = own) (hd : parseFieldDescriptor (T k).2.2.1 = some ty) (hn : narrow ty (.ref (L b)) = .ref (L b)) (hfit : fits ty (.ref (L b)) = true) (hb9 : b < ms_Z E) (hq : pc + 3 = q) (kk : ms_At p l e R s m args below meth c nL G cy A L cells slots Q (ms_sR E o k (some b)) u (q) lv (st)) : ms_At p l e R s m args below meth c nL G cy A L cells slots Q E u (pc) lv (.ref (L b) :: .ref (L o) :: st) := by
  subst hq
  intro H locs ls hw hS hl
  refine va_putF C.1.1 C.1.2.1 C.1.2.2.2.2 (fun w h => List.mem_cons_of_mem _ (hin w h)) ty0 hty hnm C.1.2.2.2.1 C.2.1 hw.1 hw.2.1 hS o (by rw [ms_ws_get ho.1, ms_cell_o ho.2 hci]) hc k hk (C.1.2.2.2.2 _ (List.mem_cons_of_mem _ h9)) (fun _ h => h) hfin hin2 hdecl hd hn hfit (by simp [ms_fs, hkl]) hdg (fun H1 locs1 h1 h2 h3 => kk H1 locs1 ls ⟨?_, ?_, ms_Cl_sR hw.2.2 (fun _ h => by cases h; exact hb9)⟩ h3 hl)
  · rw [show Value.ref (L b) = va_rf ((some b).map L) from rfl, ms_fs_setR hf, ← ms_cell_o (cy := cy) (E := ms_sR E o k (some b)) ho.2 hci, ms_ws_sR] at h1; exact h1
  · rw [show Value.ref (L b) = va_rf ((some b).map L) from rfl, ms_fs_setR hf, ← ms_cell_o (cy := cy) (E := ms_sR E o k (some b)) ho.2 hci, ms_ws_sR] at h2; exact h2
theorem a_iald (C : ms_Cx p m c cc nL s args c0 own G cy A) {o : Nat} {i : Int32} (hdg : decode cc pc = .ok (.iaload, 1)) (ho : ms_is E o 13) {n : Nat} (hN : ms_N E o = n) (hin : vp_in i n) (hq : pc + 1 = q) (kk : ms_At p l e R s m args below meth c nL G cy A L cells slots Q E u (q) lv (.int (ms_I u o i.toNatClampNeg) :: st)) : ms_At p l e R s m args below meth c nL G cy A L cells slots Q E u (pc) lv (.int i :: .ref (L o) :: st) := by
  subst hq
  exact fun H locs ls hw hS hl => va_iald C.1.1 C.1.2.1 C.2.1 hw.1 o 1 (by rw [ms_ws_get ho.1, ms_cell_i ho.2 (by decide)]) rfl (by rw [hN]; exact hin) hdg (kk H locs ls hw hS hl)
theorem a_bald (C : ms_Cx p m c cc nL s args c0 own G cy A) {o : Nat} {i : Int32} (hdg : decode cc pc = .ok (.baload, 1)) (ho : ms_is E o 12) {n : Nat} (hN : ms_N E o = n) (hin : vp_in i n) (hq : pc + 1 = q) (kk : ms_At p l e R s m args below meth c nL G cy A L cells slots Q E u (q) lv (.int (ms_I u o i.toNatClampNeg) :: st)) : ms_At p l e R s m args below meth c nL G cy A L cells slots Q E u (pc) lv (.int i :: .ref (L o) :: st) := by
  subst hq
  exact fun H locs ls hw hS hl => va_bald C.1.1 C.1.2.1 C.2.1 hw.1 o 0 (by rw [ms_ws_get ho.1, ms_cell_i ho.2 (by decide)]) rfl (by rw [hN]; exact hin) hdg (kk H locs ls hw hS hl)
theorem a_zald (C : ms_Cx p m c cc nL s args c0 own G cy A) {o : Nat} {i : Int32} (hdg : decode cc pc = .ok (.baload, 1)) (ho : ms_is E o 15) {n : Nat} (hN : ms_N E o = n) (hin : vp_in i n) (hq : pc + 1 = q) (kk : ms_At p l e R s m args below meth c nL G cy A L cells slots Q E u (q) lv (.int (ms_I u o i.toNatClampNeg) :: st)) : ms_At p l e R s m args below meth c nL G cy A L cells slots Q E u (pc) lv (.int i :: .ref (L o) :: st) := by
  subst hq
  exact fun H locs ls hw hS hl => va_zald C.1.1 C.1.2.1 C.2.1 hw.1 o 3 (by rw [ms_ws_get ho.1, ms_cell_i ho.2 (by decide)]) rfl (by rw [hN]; exact hin) hdg (kk H locs ls hw hS hl)
theorem a_lald (C : ms_Cx p m c cc nL s args c0 own G cy A) {o : Nat} {i : Int32} (hdg : decode cc pc = .ok (.laload, 1)) (ho : ms_is E o 14) {n : Nat} (hN : ms_N E o = n) (hin : vp_in i n) (hq : pc + 1 = q) (kk : ms_At p l e R s m args below meth c nL G cy A L cells slots Q E u (q) lv (.long (ms_J u o i.toNatClampNeg) :: st)) : ms_At p l e R s m args below meth c nL G cy A L cells slots Q E u (pc) lv (.int i :: .ref (L o) :: st) := by
  subst hq
  exact fun H locs ls hw hS hl => va_lald C.1.1 C.1.2.1 C.2.1 hw.1 o 2 (by rw [ms_ws_get ho.1, ms_cell_j ho.2]) rfl (by rw [hN]; exact hin) hdg (kk H locs ls hw hS hl)
theorem a_aldT (C : ms_Cx p m c cc nL s args c0 own G cy A) {o b : Nat} {i : Int32} (hdg : decode cc pc = .ok (.aaload, 1)) (ho : ms_is E o 16) {n : Nat} (hN : ms_N E o = n) (hin : vp_in i n) (hb9 : ms_R E o i.toNatClampNeg = some b) (hq : pc + 1 = q) (kk : ms_At p l e R s m args below meth c nL G cy A L cells slots Q E u (q) lv (.ref (L b) :: st)) : ms_At p l e R s m args below meth c nL G cy A L cells slots Q E u (pc) lv (.int i :: .ref (L o) :: st) := by
  subst hq
  exact fun H locs ls hw hS hl => va_aldq (f := fun k => (ms_R E o k).map L) C.1.1 C.1.2.1 C.2.1 hw.1 o 4 (by rw [ms_ws_get ho.1, ms_cell_T ho.2]) rfl (by rw [hN]; exact hin) hdg (by rw [hb9]; exact kk H locs ls hw hS hl)
theorem a_aldI (C : ms_Cx p m c cc nL s args c0 own G cy A) {o b kd n : Nat} {i : Int32} (hdg : decode cc pc = .ok (.aaload, 1)) (ho : ms_is E o kd) (hk17 : 17 ≤ kd) (hN : ms_N E o = n) (hin : vp_in i n) (hb9 : ms_R E o i.toNatClampNeg = some b) (hq : pc + 1 = q) (kk : ms_At p l e R s m args below meth c nL G cy A L cells slots Q E u (q) lv (.ref (L b) :: st)) : ms_At p l e R s m args below meth c nL G cy A L cells slots Q E u (pc) lv (.int i :: .ref (L o) :: st) := by
  subst hq
  intro H locs ls hw hS hl
  subst hN
  have hlt : i.toNatClampNeg < ms_N E o := Nat.not_le.mp fun q => hin (Or.inr q)
  have ha : (ms_ws cy L E u)[o]? = some (L o, .inl (cy 17, ms_N E o, .inr (.inr (.inr (.inr (fun k => (ms_R E o k).map L)))))) := by rw [ms_ws_get ho.1, ms_cell_q ho.2 hk17]
  exact W.aald (v := va_rf ((ms_R E o i.toNatClampNeg).map L)) (ty := .array .int) C.1.1 C.1.2.1 (hw.1 o _ ha) ((C.2.1.2 5 _ rfl).1 (ms_N E o) (fun j => va_rf ((ms_R E o j).map L))) rfl (fun q => by cases q) (by show ¬ (i < 0 ∨ (arrV _ _ _).slots.size ≤ _); rw [arrV_size]; exact hin) (by show (arrV _ _ _).slots[_]? = _; rw [arrV_read _ _ hlt]) rfl rfl hdg (by rw [hb9]; exact kk H locs ls hw hS hl)
theorem a_iast (C : ms_Cx p m c cc nL s args c0 own G cy A) {o : Nat} {i x : Int32} (hdg : decode cc pc = .ok (.iastore, 1)) (ho : ms_is E o 13) {n : Nat} (hN : ms_N E o = n) (hin : vp_in i n) (hq : pc + 1 = q) (kk : ms_At p l e R s m args below meth c nL G cy A L cells slots Q E (ms_sI u o i.toNatClampNeg x) (q) lv (st)) : ms_At p l e R s m args below meth c nL G cy A L cells slots Q E u (pc) lv (.int x :: .int i :: .ref (L o) :: st) := by
  subst hq
  intro H locs ls hw hS hl
  refine va_iast C.1.1 C.1.2.1 C.2.1 hw.1 hw.2.1 hS o 1 (by rw [ms_ws_get ho.1, ms_cell_i ho.2 (by decide)]) rfl (by rw [hN]; exact hin) hdg (fun H1 locs1 h1 h2 h3 => kk H1 locs1 ls ⟨?_, ?_, ms_Cl_kd hw.2.2 ho (Or.inl (by decide))⟩ h3 hl)
  · rw [← ms_u2_up (f := ms_I u)] at h1; rw [← ms_ws_sI, ms_cell_i (u := ms_sI u o i.toNatClampNeg x) ho.2 (by decide)]; exact h1
  · rw [← ms_u2_up (f := ms_I u)] at h2; rw [← ms_ws_sI, ms_cell_i (u := ms_sI u o i.toNatClampNeg x) ho.2 (by decide)]; exact h2
theorem a_bast (C : ms_Cx p m c cc nL s args c0 own G cy A) {o : Nat} {i x : Int32} (hdg : decode cc pc = .ok (.bastore, 1)) (ho : ms_is E o 12) {n : Nat} (hN : ms_N E o = n) (hin : vp_in i n) (hq : pc + 1 = q) (kk : ms_At p l e R s m args below meth c nL G cy A L cells slots Q E (ms_sI u o i.toNatClampNeg (vp_nar .byte x)) (q) lv (st)) : ms_At p l e R s m args below meth c nL G cy A L cells slots Q E u (pc) lv (.int x :: .int i :: .ref (L o) :: st) := by
  subst hq
  intro H locs ls hw hS hl
  refine va_bast C.1.1 C.1.2.1 C.2.1 hw.1 hw.2.1 hS o 0 (by rw [ms_ws_get ho.1, ms_cell_i ho.2 (by decide)]) rfl (by rw [hN]; exact hin) hdg (fun H1 locs1 h1 h2 h3 => kk H1 locs1 ls ⟨?_, ?_, ms_Cl_kd hw.2.2 ho (Or.inl (by decide))⟩ h3 hl)
  · rw [← ms_u2_up (f := ms_I u)] at h1; rw [← ms_ws_sI, ms_cell_i (u := ms_sI u o i.toNatClampNeg (vp_nar .byte x)) ho.2 (by decide)]; exact h1
  · rw [← ms_u2_up (f := ms_I u)] at h2; rw [← ms_ws_sI, ms_cell_i (u := ms_sI u o i.toNatClampNeg (vp_nar .byte x)) ho.2 (by decide)]; exact h2
theorem a_zast (C : ms_Cx p m c cc nL s args c0 own G cy A) {o : Nat} {i x : Int32} (hdg : decode cc pc = .ok (.bastore, 1)) (ho : ms_is E o 15) {n : Nat} (hN : ms_N E o = n) (hin : vp_in i n) (hq : pc + 1 = q) (kk : ms_At p l e R s m args below meth c nL G cy A L cells slots Q E (ms_sI u o i.toNatClampNeg (vp_nar .boolean x)) (q) lv (st)) : ms_At p l e R s m args below meth c nL G cy A L cells slots Q E u (pc) lv (.int x :: .int i :: .ref (L o) :: st) := by
  subst hq
  intro H locs ls hw hS hl
  refine va_zast C.1.1 C.1.2.1 C.2.1 hw.1 hw.2.1 hS o 3 (by rw [ms_ws_get ho.1, ms_cell_i ho.2 (by decide)]) rfl (by rw [hN]; exact hin) hdg (fun H1 locs1 h1 h2 h3 => kk H1 locs1 ls ⟨?_, ?_, ms_Cl_kd hw.2.2 ho (Or.inl (by decide))⟩ h3 hl)
  · rw [← ms_u2_up (f := ms_I u)] at h1; rw [← ms_ws_sI, ms_cell_i (u := ms_sI u o i.toNatClampNeg (vp_nar .boolean x)) ho.2 (by decide)]; exact h1
  · rw [← ms_u2_up (f := ms_I u)] at h2; rw [← ms_ws_sI, ms_cell_i (u := ms_sI u o i.toNatClampNeg (vp_nar .boolean x)) ho.2 (by decide)]; exact h2
theorem a_last (C : ms_Cx p m c cc nL s args c0 own G cy A) {o : Nat} {i : Int32} {x : Int64} (hdg : decode cc pc = .ok (.lastore, 1)) (ho : ms_is E o 14) {n : Nat} (hN : ms_N E o = n) (hin : vp_in i n) (hq : pc + 1 = q) (kk : ms_At p l e R s m args below meth c nL G cy A L cells slots Q E (ms_sJ u o i.toNatClampNeg x) (q) lv (st)) : ms_At p l e R s m args below meth c nL G cy A L cells slots Q E u (pc) lv (.long x :: .int i :: .ref (L o) :: st) := by
  subst hq
  intro H locs ls hw hS hl
  refine va_last C.1.1 C.1.2.1 C.2.1 hw.1 hw.2.1 hS o 2 (by rw [ms_ws_get ho.1, ms_cell_j ho.2]) rfl (by rw [hN]; exact hin) hdg (fun H1 locs1 h1 h2 h3 => kk H1 locs1 ls ⟨?_, ?_, hw.2.2⟩ h3 hl)
  · rw [← ms_u2_upL (f := ms_J u)] at h1; rw [← ms_ws_sJ, ms_cell_j (u := ms_sJ u o i.toNatClampNeg x) ho.2]; exact h1
  · rw [← ms_u2_upL (f := ms_J u)] at h2; rw [← ms_ws_sJ, ms_cell_j (u := ms_sJ u o i.toNatClampNeg x) ho.2]; exact h2
theorem a_alen12 (C : ms_Cx p m c cc nL s args c0 own G cy A) {o : Nat} (hdg : decode cc pc = .ok (.arraylength, 1)) (ho : ms_is E o 12) (hq : pc + 1 = q) (kk : ms_At p l e R s m args below meth c nL G cy A L cells slots Q E u (q) lv (.int (nI (ms_N E o)) :: st)) : ms_At p l e R s m args below meth c nL G cy A L cells slots Q E u (pc) lv (.ref (L o) :: st) := by
  subst hq
  exact fun H locs ls hw hS hl => va_alen (x := (ms_N E o, .inl (ms_I u o))) C.1.1 C.1.2.1 C.2.1 hw.1 o 0 (by rw [ms_ws_get ho.1, ms_cell_i ho.2 (by decide)]) rfl rfl hdg (kk H locs ls hw hS hl)
theorem a_alen13 (C : ms_Cx p m c cc nL s args c0 own G cy A) {o : Nat} (hdg : decode cc pc = .ok (.arraylength, 1)) (ho : ms_is E o 13) (hq : pc + 1 = q) (kk : ms_At p l e R s m args below meth c nL G cy A L cells slots Q E u (q) lv (.int (nI (ms_N E o)) :: st)) : ms_At p l e R s m args below meth c nL G cy A L cells slots Q E u (pc) lv (.ref (L o) :: st) := by
  subst hq
  exact fun H locs ls hw hS hl => va_alen (x := (ms_N E o, .inl (ms_I u o))) C.1.1 C.1.2.1 C.2.1 hw.1 o 1 (by rw [ms_ws_get ho.1, ms_cell_i ho.2 (by decide)]) rfl rfl hdg (kk H locs ls hw hS hl)
theorem a_alen14 (C : ms_Cx p m c cc nL s args c0 own G cy A) {o : Nat} (hdg : decode cc pc = .ok (.arraylength, 1)) (ho : ms_is E o 14) (hq : pc + 1 = q) (kk : ms_At p l e R s m args below meth c nL G cy A L cells slots Q E u (q) lv (.int (nI (ms_N E o)) :: st)) : ms_At p l e R s m args below meth c nL G cy A L cells slots Q E u (pc) lv (.ref (L o) :: st) := by
  subst hq
  exact fun H locs ls hw hS hl => va_alen (x := (ms_N E o, .inr (.inl (ms_J u o)))) C.1.1 C.1.2.1 C.2.1 hw.1 o 2 (by rw [ms_ws_get ho.1, ms_cell_j ho.2]) rfl rfl hdg (kk H locs ls hw hS hl)
theorem a_alen16 (C : ms_Cx p m c cc nL s args c0 own G cy A) {o : Nat} (hdg : decode cc pc = .ok (.arraylength, 1)) (ho : ms_is E o 16) (hq : pc + 1 = q) (kk : ms_At p l e R s m args below meth c nL G cy A L cells slots Q E u (q) lv (.int (nI (ms_N E o)) :: st)) : ms_At p l e R s m args below meth c nL G cy A L cells slots Q E u (pc) lv (.ref (L o) :: st) := by
  subst hq
  exact fun H locs ls hw hS hl => va_alen (x := (ms_N E o, .inr (.inr (.inr (.inr (fun k => (ms_R E o k).map L)))))) C.1.1 C.1.2.1 C.2.1 hw.1 o 4 (by rw [ms_ws_get ho.1, ms_cell_T ho.2]) rfl rfl hdg (kk H locs ls hw hS hl)
theorem a_getM (C : ms_Cx p m c cc nL s args c0 own G cy A) {Cn : String} {T : u_T} {N ci : Nat} (hin : ∀ w ∈ u_ws Cn T N, w ∈ lw_g) (hc : vwCl[ci]? = some (Cn, T, N)) (hci : ci < 12) {index o k b : Nat} (hdg : decode cc pc = .ok (.getfield index, 3)) (ho : ms_is E o ci) (hk : k < N) (hkl : k < (ms_fT ci).length) (hf : (ms_fT ci).getD k 0 = 2) (h9 : Cond.fieldLink own index (T k).1 (T k).2.1 (T k).2.2.1 ∈ lw_g) (hq : pc + 3 = q) (kk : ms_At p l e R s m args below meth c nL G cy A L cells slots Q E u (q) lv (.ref (L (ms_I u o k).toNatClampNeg) :: st)) : ms_At p l e R s m args below meth c nL G cy A L cells slots Q E u (pc) lv (.ref (L o) :: st) := by
  subst hq
  exact fun H locs ls hw hS hl => va_get C.1.1 C.1.2.1 C.1.2.2.2.2 (fun w h => List.mem_cons_of_mem _ (hin w h)) C.1.2.2.2.1 C.2.1 hw.1 o (by rw [ms_ws_get ho.1, ms_cell_o ho.2 hci]) hc k hk (C.1.2.2.2.2 _ (List.mem_cons_of_mem _ h9)) (fun _ h => h) (by rw [ms_fs_get hkl, ms_fv_M hf]) hdg (kk H locs ls hw hS hl)
theorem a_putM (C : ms_Cx p m c cc nL s args c0 own G cy A) {Cn : String} {T : u_T} {N ci : Nat} (hin : ∀ w ∈ u_ws Cn T N, w ∈ lw_g) (hc : vwCl[ci]? = some (Cn, T, N)) (hci : ci < 12) (ty0 : Nat → FieldType) (hty : ∀ k, k < N → parseFieldDescriptor (T k).2.2.1 = some (ty0 k)) (hnm : ∀ a, a < N → ∀ b, b < N → a ≠ b → (T a).2.1 ≠ (T b).2.1) {index o k b : Nat} {ty : FieldType} (hdg : decode cc pc = .ok (.putfield index, 3)) (ho : ms_is E o ci) (hk : k < N) (hkl : k < (ms_fT ci).length) (hf : (ms_fT ci).getD k 0 = 2) (h9 : Cond.fieldLink own index (T k).1 (T k).2.1 (T k).2.2.1 ∈ lw_g) (hfin : (T k).2.2.2 = false) (hd : parseFieldDescriptor (T k).2.2.1 = some ty) (hn : narrow ty (.ref (L b)) = .ref (L b)) (hfit : fits ty (.ref (L b)) = true) (hb9 : b < ms_Z E) (hb31 : b < 2 ^ 31) (hq : pc + 3 = q) (kk : ms_At p l e R s m args below meth c nL G cy A L cells slots Q E (ms_sI u o k (nI b)) (q) lv (st)) : ms_At p l e R s m args below meth c nL G cy A L cells slots Q E u (pc) lv (.ref (L b) :: .ref (L o) :: st) := by
  subst hq
  intro H locs ls hw hS hl
  refine va_put C.1.1 C.1.2.1 C.1.2.2.2.2 (fun w h => List.mem_cons_of_mem _ (hin w h)) ty0 hty hnm C.1.2.2.2.1 C.2.1 hw.1 hw.2.1 hS o (by rw [ms_ws_get ho.1, ms_cell_o ho.2 hci]) hc k hk (C.1.2.2.2.2 _ (List.mem_cons_of_mem _ h9)) (fun _ h => h) hfin hd hn hfit (by simp [ms_fs, hkl]) hdg (fun H1 locs1 h1 h2 h3 => kk H1 locs1 ls ⟨?_, ?_, ms_Cl_sI hw.2.2 (fun _ _ => by rw [nI_clamp hb31]; exact hb9)⟩ h3 hl)
  · rw [ms_fs_setM hf hb31, ← ms_cell_o (cy := cy) (u := ms_sI u o k (nI b)) ho.2 hci, ms_ws_sI] at h1; exact h1
  · rw [ms_fs_setM hf hb31, ← ms_cell_o (cy := cy) (u := ms_sI u o k (nI b)) ho.2 hci, ms_ws_sI] at h2; exact h2
theorem a_nmI {x : Int32} (kk : ∀ y : Int32, y = x → ms_At p l e R s m args below meth c nL G cy A L cells slots Q E u (pc) lv (.int y :: st)) : ms_At p l e R s m args below meth c nL G cy A L cells slots Q E u (pc) lv (.int x :: st) := kk x rfl
theorem a_nmL {x : Int64} (kk : ∀ y : Int64, y = x → ms_At p l e R s m args below meth c nL G cy A L cells slots Q E u (pc) lv (.long y :: st)) : ms_At p l e R s m args below meth c nL G cy A L cells slots Q E u (pc) lv (.long x :: st) := kk x rfl
theorem a_get (C : ms_Cx p m c cc nL s args c0 own G cy A) {Cn : String} {T : u_T} {N ci : Nat} (hin : ∀ w ∈ u_ws Cn T N, w ∈ lw_g) (hc : vwCl[ci]? = some (Cn, T, N)) (hci : ci < 12) {index o k : Nat} (hE : ms_WT E) (hdg : decode cc pc = .ok (.getfield index, 3)) (ho : ms_is E o ci) (hk : k < N) (hkl : k < (ms_fT ci).length) (hf : (ms_fT ci).getD k 0 = 1) (h9 : Cond.fieldLink own index (T k).1 (T k).2.1 (T k).2.2.1 ∈ lw_g) (hfk : (ms_fK ci k).1 < 99) (hq : pc + 3 = q) (kk : ms_At p l e R s m args below meth c nL G cy A L cells slots Q E u (q) lv (.ref (L (ms_at E o k)) :: st)) : ms_At p l e R s m args below meth c nL G cy A L cells slots Q E u (pc) lv (.ref (L o) :: st) := a_getR C hin hc hci hdg ho hk hkl hf h9 (hE.1 o ci k ho hfk).1 hq kk
theorem ms_wt {o c k kd : Nat} (hE : ms_WT E) (ho : ms_is E o c) (hk : (ms_fK c k).1 = kd) (h9 : kd < 99) : ms_is E (ms_at E o k) kd := by subst hk; exact (hE.1 o c k ho h9).2.1
theorem ms_wl {o c k n : Nat} (hE : ms_WT E) (ho : ms_is E o c) (hk : (ms_fK c k).1 < 99) (h12 : 12 ≤ (ms_fK c k).1) (hn : (ms_fK c k).2 = n) : ms_N E (ms_at E o k) = n := by subst hn; exact (hE.1 o c k ho hk).2.2 h12
end ATA
