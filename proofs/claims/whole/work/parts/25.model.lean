/-! CensusWalkModel.thrown()I -/
theorem pd_X11_thrown : (⟨"CensusWalkModel", "thrown", "()I"⟩ : MethodName).cls = "CensusWalkModel" ∧ (⟨"CensusWalkModel", "thrown", "()I"⟩ : MethodName).cls ≠ "java/lang/invoke/MethodHandle" ∧ (⟨"CensusWalkModel", "thrown", "()I"⟩ : MethodName).cls ≠ "java/lang/invoke/VarHandle" ∧ (parseMethodDescriptor (⟨"CensusWalkModel", "thrown", "()I"⟩ : MethodName).desc).map (fun d => d.parameters.length) = some 0 := by decide +kernel
def wp_X11_thrown (E : ms_En) (u : ms_St) (o : Nat) (post : Int32 → ms_St → Prop) : Prop := post (ms_I u o 0) u
set_option maxHeartbeats 4000000 in
set_option maxRecDepth 100000 in
theorem c_X11_thrown (l : Launch) (G : va_G) (cy : Nat → ClassId) (L : Nat → Nat) (E : ms_En) (hE : ms_WT E) (u : ms_St) (o : Nat) (ho : ms_is E o 11) (post : Int32 → ms_St → Prop) (h : wp_X11_thrown E u o post) : ms_MetI l ⟨"CensusWalkModel", "thrown", "()I"⟩ (Cond.code ⟨"CensusWalkModel", "thrown", "()I"⟩ prog_13_method_2_code 1 (some .int) :: lw_g) ({ frames := 0, cells := 0, slots := 0, locals := 0 } : Room) G cy L E [.ref (L o)] u post 0 0 := by
  refine ms_enterI (lv := [(0, .ref (L o))]) (by decide) (Nat.le_of_ble_eq_true rfl) rfl ?_
  intro p e s m args below meth c A C hr hlocks
  unfold wp_X11_thrown at h
  refine a_aload_n C dX11_thrown_0 rfl 0 rfl rfl ?_
  refine g_11_0 C dX11_thrown_1 ho kw_5_222 rfl ?_
  exact a_iret C dX11_thrown_4 hr hlocks (Nat.le_of_ble_eq_true rfl) (Nat.le_of_ble_eq_true rfl) h

/-! CensusWalkModel.fails(ZI)Z -/
theorem pd_X11_fails : (⟨"CensusWalkModel", "fails", "(ZI)Z"⟩ : MethodName).cls = "CensusWalkModel" ∧ (⟨"CensusWalkModel", "fails", "(ZI)Z"⟩ : MethodName).cls ≠ "java/lang/invoke/MethodHandle" ∧ (⟨"CensusWalkModel", "fails", "(ZI)Z"⟩ : MethodName).cls ≠ "java/lang/invoke/VarHandle" ∧ (parseMethodDescriptor (⟨"CensusWalkModel", "fails", "(ZI)Z"⟩ : MethodName).desc).map (fun d => d.parameters.length) = some 2 := by decide +kernel
def wp_X11_fails_28 (E : ms_En) (o : Nat) (a1 : Int32) (a2 : Int32) (post : Int32 → ms_St → Prop)  (u : ms_St) (z0 : Int32) : Prop := (z0 = 0 ∨ z0 = 1) ∧ (post z0 u)
set_option maxHeartbeats 4000000 in
set_option maxRecDepth 100000 in
theorem c_X11_fails_28 {p : Program} {l : Launch} {e : Env} {s : State} {m : MethodId} {args : Array Value} {below : List Frame} {meth : Method} {c : Code} {G : va_G} {cy : Nat → ClassId} {A : Nat → Prop} {L : Nat → Nat} {E : ms_En} (C : ms_Cx p m c cX11_fails 3 s args (Cond.code ⟨"CensusWalkModel", "fails", "(ZI)Z"⟩ prog_13_method_3_code 3 (some .boolean)) "CensusWalkModel" G cy A) (hr : meth.sig.returnType = (some .boolean)) (hlocks : meth.locks = false) (hE : ms_WT E) {o : Nat} {a1 : Int32} {a2 : Int32} {post : Int32 → ms_St → Prop}  (ho : ms_is E o 11)  (u : ms_St) (z0 : Int32)  (h : wp_X11_fails_28 E o a1 a2 post u z0) : ms_At p l e ({ frames := 0, cells := 0, slots := 0, locals := 0 } : Room) s m args below meth c 3 G cy A L 0 0 (ms_QI below args s G cy L E A post 0 0) E u 28 [] [.int z0] := by
  unfold wp_X11_fails_28 at h
  obtain ⟨q28, h⟩ := h
  exact a_zret C dX11_fails_28 hr hlocks (Nat.le_of_ble_eq_true rfl) (Nat.le_of_ble_eq_true rfl) (ms_nz q28) h
def wp_X11_fails_16 (E : ms_En) (o : Nat) (a1 : Int32) (a2 : Int32) (post : Int32 → ms_St → Prop)  (u : ms_St)  : Prop := ((ms_I u o 0) = 0 → wp_X11_fails_28 E o a1 a2 post u 0) ∧ (¬ (ms_I u o 0) = 0 → wp_X11_fails_28 E o a1 a2 post u 1)
set_option maxHeartbeats 4000000 in
set_option maxRecDepth 100000 in
theorem c_X11_fails_16 {p : Program} {l : Launch} {e : Env} {s : State} {m : MethodId} {args : Array Value} {below : List Frame} {meth : Method} {c : Code} {G : va_G} {cy : Nat → ClassId} {A : Nat → Prop} {L : Nat → Nat} {E : ms_En} (C : ms_Cx p m c cX11_fails 3 s args (Cond.code ⟨"CensusWalkModel", "fails", "(ZI)Z"⟩ prog_13_method_3_code 3 (some .boolean)) "CensusWalkModel" G cy A) (hr : meth.sig.returnType = (some .boolean)) (hlocks : meth.locks = false) (hE : ms_WT E) {o : Nat} {a1 : Int32} {a2 : Int32} {post : Int32 → ms_St → Prop}  (ho : ms_is E o 11)  (u : ms_St)   (h : wp_X11_fails_16 E o a1 a2 post u ) : ms_At p l e ({ frames := 0, cells := 0, slots := 0, locals := 0 } : Room) s m args below meth c 3 G cy A L 0 0 (ms_QI below args s G cy L E A post 0 0) E u 16 [(0, .ref (L o))] [] := by
  unfold wp_X11_fails_16 at h
  refine a_aload_n C dX11_fails_16 rfl 0 rfl rfl ?_
  refine g_11_0 C dX11_fails_17 ho kw_5_222 rfl ?_
  refine a_if_eq (tgt := 27) C dX11_fails_20 (by decide) rfl (fun hc => ?_) (fun hc => ?_)
  · replace h := h.1 hc
    refine a_iconst (v := 0) C dX11_fails_27 (by decide) rfl ?_
    refine a_sub (lv' := []) [] rfl ?_
    exact c_X11_fails_28 C hr hlocks hE ho  u 0  h
  · replace h := h.2 hc
    refine a_iconst (v := 1) C dX11_fails_23 (by decide) rfl ?_
    refine a_goto (tgt := 28) C dX11_fails_24 (by decide) ?_
    refine a_sub (lv' := []) [] rfl ?_
    exact c_X11_fails_28 C hr hlocks hE ho  u 1  h
def wp_X11_fails (E : ms_En) (u : ms_St) (o : Nat) (a1 : Int32) (a2 : Int32) (post : Int32 → ms_St → Prop) : Prop := (a1 = 0 → wp_X11_fails_16 E o a1 a2 post u) ∧ (¬ a1 = 0 → ((ms_I u o 0) = 0 → wp_X11_fails_16 E o a1 a2 post (ms_sI u o 0 a2)) ∧ (¬ (ms_I u o 0) = 0 → wp_X11_fails_16 E o a1 a2 post u))
set_option maxHeartbeats 4000000 in
set_option maxRecDepth 100000 in
theorem c_X11_fails (l : Launch) (G : va_G) (cy : Nat → ClassId) (L : Nat → Nat) (E : ms_En) (hE : ms_WT E) (u : ms_St) (o : Nat) (a1 : Int32) (a2 : Int32) (ho : ms_is E o 11) (post : Int32 → ms_St → Prop) (h : wp_X11_fails E u o a1 a2 post) : ms_MetI l ⟨"CensusWalkModel", "fails", "(ZI)Z"⟩ (Cond.code ⟨"CensusWalkModel", "fails", "(ZI)Z"⟩ prog_13_method_3_code 3 (some .boolean) :: lw_g) ({ frames := 0, cells := 0, slots := 0, locals := 0 } : Room) G cy L E [.ref (L o), .int a1, .int a2] u post 0 0 := by
  refine ms_enterI (lv := [(0, .ref (L o)), (1, .int a1), (2, .int a2)]) (by decide) (Nat.le_of_ble_eq_true rfl) rfl ?_
  intro p e s m args below meth c A C hr hlocks
  unfold wp_X11_fails at h
  refine a_iload_n C dX11_fails_0 rfl 1 rfl rfl ?_
  refine a_if_eq (tgt := 16) C dX11_fails_1 (by decide) rfl (fun hc => ?_) (fun hc => ?_)
  · replace h := h.1 hc
    refine a_sub (lv' := [(0, .ref (L o))]) [0] rfl ?_
    exact c_X11_fails_16 C hr hlocks hE ho  u  h
  · replace h := h.2 hc
    refine a_aload_n C dX11_fails_4 rfl 0 rfl rfl ?_
    refine g_11_0 C dX11_fails_5 ho kw_5_222 rfl ?_
    refine a_if_ne (tgt := 16) C dX11_fails_8 (by decide) rfl (fun hc => ?_) (fun hc => ?_)
    · replace h := h.2 hc
      refine a_sub (lv' := [(0, .ref (L o))]) [0] rfl ?_
      exact c_X11_fails_16 C hr hlocks hE ho  u  h
    · replace h := h.1 hc
      refine a_aload_n C dX11_fails_11 rfl 0 rfl rfl ?_
      refine a_iload_n C dX11_fails_12 rfl 2 rfl rfl ?_
      refine s_11_0 C dX11_fails_13 ho kw_5_222 rfl ?_
      refine a_sub (lv' := [(0, .ref (L o))]) [0] rfl ?_
      exact c_X11_fails_16 C hr hlocks hE ho  (ms_sI u o 0 a2)  h

/-! CensusWalkModel.min(II)I -/
theorem pd_X11_min : (⟨"CensusWalkModel", "min", "(II)I"⟩ : MethodName).cls ≠ "java/lang/invoke/MethodHandle" ∧ (⟨"CensusWalkModel", "min", "(II)I"⟩ : MethodName).cls ≠ "java/lang/invoke/VarHandle" ∧ (parseMethodDescriptor (⟨"CensusWalkModel", "min", "(II)I"⟩ : MethodName).desc).map (fun d => d.parameters.length) = some 2 := by decide +kernel
def wp_X11_min_10 (E : ms_En) (a0 : Int32) (a1 : Int32) (post : Int32 → ms_St → Prop)  (u : ms_St) (z0 : Int32) : Prop := post z0 u
set_option maxHeartbeats 4000000 in
set_option maxRecDepth 100000 in
theorem c_X11_min_10 {p : Program} {l : Launch} {e : Env} {s : State} {m : MethodId} {args : Array Value} {below : List Frame} {meth : Method} {c : Code} {G : va_G} {cy : Nat → ClassId} {A : Nat → Prop} {L : Nat → Nat} {E : ms_En} (C : ms_Cx p m c cX11_min 2 s args (Cond.code ⟨"CensusWalkModel", "min", "(II)I"⟩ prog_13_method_5_code 2 (some .int)) "CensusWalkModel" G cy A) (hr : meth.sig.returnType = (some .int)) (hlocks : meth.locks = false) (hE : ms_WT E) {a0 : Int32} {a1 : Int32} {post : Int32 → ms_St → Prop}    (u : ms_St) (z0 : Int32)  (h : wp_X11_min_10 E a0 a1 post u z0) : ms_At p l e ({ frames := 0, cells := 0, slots := 0, locals := 0 } : Room) s m args below meth c 2 G cy A L 0 0 (ms_QI below args s G cy L E A post 0 0) E u 10 [] [.int z0] := by
  unfold wp_X11_min_10 at h
  exact a_iret C dX11_min_10 hr hlocks (Nat.le_of_ble_eq_true rfl) (Nat.le_of_ble_eq_true rfl) h
def wp_X11_min (E : ms_En) (u : ms_St) (a0 : Int32) (a1 : Int32) (post : Int32 → ms_St → Prop) : Prop := (a1 ≤ a0 → wp_X11_min_10 E a0 a1 post u a1) ∧ (¬ a1 ≤ a0 → wp_X11_min_10 E a0 a1 post u a0)
set_option maxHeartbeats 4000000 in
set_option maxRecDepth 100000 in
theorem c_X11_min (l : Launch) (G : va_G) (cy : Nat → ClassId) (L : Nat → Nat) (E : ms_En) (hE : ms_WT E) (u : ms_St) (a0 : Int32) (a1 : Int32)  (post : Int32 → ms_St → Prop) (h : wp_X11_min E u a0 a1 post) : ms_MetI l ⟨"CensusWalkModel", "min", "(II)I"⟩ (Cond.code ⟨"CensusWalkModel", "min", "(II)I"⟩ prog_13_method_5_code 2 (some .int) :: lw_g) ({ frames := 0, cells := 0, slots := 0, locals := 0 } : Room) G cy L E [.int a0, .int a1] u post 0 0 := by
  refine ms_enterI (lv := [(0, .int a0), (1, .int a1)]) (by decide) (Nat.le_of_ble_eq_true rfl) rfl ?_
  intro p e s m args below meth c A C hr hlocks
  unfold wp_X11_min at h
  refine a_iload_n C dX11_min_0 rfl 0 rfl rfl ?_
  refine a_iload_n C dX11_min_1 rfl 1 rfl rfl ?_
  refine a_icmp_ge (tgt := 9) C dX11_min_2 (by decide) rfl (fun hc => ?_) (fun hc => ?_)
  · replace h := h.1 hc
    refine a_iload_n C dX11_min_9 rfl 1 rfl rfl ?_
    refine a_sub (lv' := []) [] rfl ?_
    exact c_X11_min_10 C hr hlocks hE   u a1  h
  · replace h := h.2 hc
    refine a_iload_n C dX11_min_5 rfl 0 rfl rfl ?_
    refine a_goto (tgt := 10) C dX11_min_6 (by decide) ?_
    refine a_sub (lv' := []) [] rfl ?_
    exact c_X11_min_10 C hr hlocks hE   u a0  h

/-! CensusWalkModel.copy([I[I)V -/
theorem pd_X11_copy : (⟨"CensusWalkModel", "copy", "([I[I)V"⟩ : MethodName).cls ≠ "java/lang/invoke/MethodHandle" ∧ (⟨"CensusWalkModel", "copy", "([I[I)V"⟩ : MethodName).cls ≠ "java/lang/invoke/VarHandle" ∧ (parseMethodDescriptor (⟨"CensusWalkModel", "copy", "([I[I)V"⟩ : MethodName).desc).map (fun d => d.parameters.length) = some 2 := by decide +kernel
def wp_X11_copy_2 (E : ms_En) (a0 : Nat) (a1 : Nat) (post : ms_St → Prop)  : Nat → ms_St → Int32 → Prop
  | 0 => fun _ _ => False
  | n + 1 => fun u x2 => (1613 ≤ x2 → post u) ∧ (¬ 1613 ≤ x2 → vp_in x2 (ms_N E a0) ∧ (vp_in x2 (ms_N E a1) ∧ (wp_X11_copy_2 E a0 a1 post n (ms_sI u a1 (Int32.toNatClampNeg x2) (ms_I u a0 (Int32.toNatClampNeg x2))) (x2 + 1))))
set_option maxHeartbeats 4000000 in
set_option maxRecDepth 100000 in
theorem c_X11_copy_2 {p : Program} {l : Launch} {e : Env} {s : State} {m : MethodId} {args : Array Value} {below : List Frame} {meth : Method} {c : Code} {G : va_G} {cy : Nat → ClassId} {A : Nat → Prop} {L : Nat → Nat} {E : ms_En} (C : ms_Cx p m c cX11_copy 3 s args (Cond.code ⟨"CensusWalkModel", "copy", "([I[I)V"⟩ prog_13_method_6_code 3 none) "CensusWalkModel" G cy A) (hr : meth.sig.returnType = none) (hlocks : meth.locks = false) (hE : ms_WT E) {a0 : Nat} {a1 : Nat} {post : ms_St → Prop}  (ha0 : ms_is E a0 13) (ha1 : ms_is E a1 13)  : ∀ (n : Nat) (u : ms_St) (x2 : Int32), wp_X11_copy_2 E a0 a1 post n u x2 → ms_At p l e ({ frames := 0, cells := 0, slots := 0, locals := 0 } : Room) s m args below meth c 3 G cy A L 0 0 (ms_QV below args s G cy L E A post 0 0) E u 2 [(0, .ref (L a0)), (1, .ref (L a1)), (2, .int x2)] [] := by
  intro n
  induction n with
  | zero =>
    intro u x2  h
    exact absurd h id
  | succ n ih =>
    intro u x2  h
    unfold wp_X11_copy_2 at h
    refine a_iload_n C dX11_copy_2 rfl 2 rfl rfl ?_
    refine a_sipush (v := 1613) C dX11_copy_3 (by decide) rfl ?_
    refine a_icmp_ge (tgt := 21) C dX11_copy_6 (by decide) rfl (fun hc => ?_) (fun hc => ?_)
    · replace h := h.1 hc
      exact a_vret C dX11_copy_21 hr hlocks (Nat.le_of_ble_eq_true rfl) (Nat.le_of_ble_eq_true rfl) h
    · replace h := h.2 hc
      refine a_aload_n C dX11_copy_9 rfl 1 rfl rfl ?_
      refine a_iload_n C dX11_copy_10 rfl 2 rfl rfl ?_
      refine a_aload_n C dX11_copy_11 rfl 0 rfl rfl ?_
      refine a_iload_n C dX11_copy_12 rfl 2 rfl rfl ?_
      obtain ⟨q13, h⟩ := h
      refine a_iald C dX11_copy_13 ha0 rfl q13 rfl ?_
      obtain ⟨q14, h⟩ := h
      refine a_iast C dX11_copy_14 ha1 rfl q14 rfl ?_
      refine a_iinc (lv' := [(0, .ref (L a0)), (1, .ref (L a1)), (2, .int (x2 + 1))]) (v := (x2 + 1)) C dX11_copy_15 2 rfl (congrArg (fun z => x2 + z) (by decide)) (by decide) [1, 2, 0] rfl rfl ?_
      refine a_goto (tgt := 2) C dX11_copy_18 (by decide) ?_
      exact ih (ms_sI u a1 (Int32.toNatClampNeg x2) (ms_I u a0 (Int32.toNatClampNeg x2))) (x2 + 1)  h
def wp_X11_copy (E : ms_En) (u : ms_St) (a0 : Nat) (a1 : Nat) (post : ms_St → Prop) : Prop := ∃ n2, wp_X11_copy_2 E a0 a1 post n2 u 0
set_option maxHeartbeats 4000000 in
set_option maxRecDepth 100000 in
theorem c_X11_copy (l : Launch) (G : va_G) (cy : Nat → ClassId) (L : Nat → Nat) (E : ms_En) (hE : ms_WT E) (u : ms_St) (a0 : Nat) (a1 : Nat) (ha0 : ms_is E a0 13) (ha1 : ms_is E a1 13) (post : ms_St → Prop) (h : wp_X11_copy E u a0 a1 post) : ms_MetV l ⟨"CensusWalkModel", "copy", "([I[I)V"⟩ (Cond.code ⟨"CensusWalkModel", "copy", "([I[I)V"⟩ prog_13_method_6_code 3 none :: lw_g) ({ frames := 0, cells := 0, slots := 0, locals := 0 } : Room) G cy L E [.ref (L a0), .ref (L a1)] u post 0 0 := by
  refine ms_enterV (lv := [(0, .ref (L a0)), (1, .ref (L a1))]) (by decide) (Nat.le_of_ble_eq_true rfl) rfl ?_
  intro p e s m args below meth c A C hr hlocks
  unfold wp_X11_copy at h
  refine a_iconst (v := 0) C dX11_copy_0 (by decide) rfl ?_
  refine a_istore_n (lv' := [(0, .ref (L a0)), (1, .ref (L a1)), (2, .int 0)]) C dX11_copy_1 rfl (by decide) [1, 2, 0] rfl rfl ?_
  obtain ⟨n9, h⟩ := h
  exact c_X11_copy_2 C hr hlocks hE ha0 ha1  n9 u 0  h

/-! CensusWalkModel.street(I)I -/
theorem pd_X11_street : (⟨"CensusWalkModel", "street", "(I)I"⟩ : MethodName).cls ≠ "java/lang/invoke/MethodHandle" ∧ (⟨"CensusWalkModel", "street", "(I)I"⟩ : MethodName).cls ≠ "java/lang/invoke/VarHandle" ∧ (parseMethodDescriptor (⟨"CensusWalkModel", "street", "(I)I"⟩ : MethodName).desc).map (fun d => d.parameters.length) = some 1 := by decide +kernel
def wp_X11_street (E : ms_En) (u : ms_St) (a0 : Int32) (post : Int32 → ms_St → Prop) : Prop := post (8 + (4 * a0)) u
set_option maxHeartbeats 4000000 in
set_option maxRecDepth 100000 in
theorem c_X11_street (l : Launch) (G : va_G) (cy : Nat → ClassId) (L : Nat → Nat) (E : ms_En) (hE : ms_WT E) (u : ms_St) (a0 : Int32)  (post : Int32 → ms_St → Prop) (h : wp_X11_street E u a0 post) : ms_MetI l ⟨"CensusWalkModel", "street", "(I)I"⟩ (Cond.code ⟨"CensusWalkModel", "street", "(I)I"⟩ prog_13_method_7_code 1 (some .int) :: lw_g) ({ frames := 0, cells := 0, slots := 0, locals := 0 } : Room) G cy L E [.int a0] u post 0 0 := by
  refine ms_enterI (lv := [(0, .int a0)]) (by decide) (Nat.le_of_ble_eq_true rfl) rfl ?_
  intro p e s m args below meth c A C hr hlocks
  unfold wp_X11_street at h
  refine a_bipush (v := 8) C dX11_street_0 (by decide) rfl ?_
  refine a_iconst (v := 4) C dX11_street_2 (by decide) rfl ?_
  refine a_iload_n C dX11_street_3 rfl 0 rfl rfl ?_
  refine a_imul C dX11_street_4 rfl ?_
  refine a_iadd C dX11_street_5 rfl ?_
  exact a_iret C dX11_street_6 hr hlocks (Nat.le_of_ble_eq_true rfl) (Nat.le_of_ble_eq_true rfl) h

/-! CensusWalkModel.house(I)I -/
theorem pd_X11_house : (⟨"CensusWalkModel", "house", "(I)I"⟩ : MethodName).cls ≠ "java/lang/invoke/MethodHandle" ∧ (⟨"CensusWalkModel", "house", "(I)I"⟩ : MethodName).cls ≠ "java/lang/invoke/VarHandle" ∧ (parseMethodDescriptor (⟨"CensusWalkModel", "house", "(I)I"⟩ : MethodName).desc).map (fun d => d.parameters.length) = some 1 := by decide +kernel
def wp_X11_house (E : ms_En) (u : ms_St) (a0 : Int32) (post : Int32 → ms_St → Prop) : Prop := post (56 + (7 * a0)) u
set_option maxHeartbeats 4000000 in
set_option maxRecDepth 100000 in
theorem c_X11_house (l : Launch) (G : va_G) (cy : Nat → ClassId) (L : Nat → Nat) (E : ms_En) (hE : ms_WT E) (u : ms_St) (a0 : Int32)  (post : Int32 → ms_St → Prop) (h : wp_X11_house E u a0 post) : ms_MetI l ⟨"CensusWalkModel", "house", "(I)I"⟩ (Cond.code ⟨"CensusWalkModel", "house", "(I)I"⟩ prog_13_method_8_code 1 (some .int) :: lw_g) ({ frames := 0, cells := 0, slots := 0, locals := 0 } : Room) G cy L E [.int a0] u post 0 0 := by
  refine ms_enterI (lv := [(0, .int a0)]) (by decide) (Nat.le_of_ble_eq_true rfl) rfl ?_
  intro p e s m args below meth c A C hr hlocks
  unfold wp_X11_house at h
  refine a_bipush (v := 56) C dX11_house_0 (by decide) rfl ?_
  refine a_bipush (v := 7) C dX11_house_2 (by decide) rfl ?_
  refine a_iload_n C dX11_house_4 rfl 0 rfl rfl ?_
  refine a_imul C dX11_house_5 rfl ?_
  refine a_iadd C dX11_house_6 rfl ?_
  exact a_iret C dX11_house_7 hr hlocks (Nat.le_of_ble_eq_true rfl) (Nat.le_of_ble_eq_true rfl) h

/-! CensusWalkModel.walker(I)I -/
theorem pd_X11_walker : (⟨"CensusWalkModel", "walker", "(I)I"⟩ : MethodName).cls ≠ "java/lang/invoke/MethodHandle" ∧ (⟨"CensusWalkModel", "walker", "(I)I"⟩ : MethodName).cls ≠ "java/lang/invoke/VarHandle" ∧ (parseMethodDescriptor (⟨"CensusWalkModel", "walker", "(I)I"⟩ : MethodName).desc).map (fun d => d.parameters.length) = some 1 := by decide +kernel
def wp_X11_walker (E : ms_En) (u : ms_St) (a0 : Int32) (post : Int32 → ms_St → Prop) : Prop := post (168 + (15 * a0)) u
set_option maxHeartbeats 4000000 in
set_option maxRecDepth 100000 in
theorem c_X11_walker (l : Launch) (G : va_G) (cy : Nat → ClassId) (L : Nat → Nat) (E : ms_En) (hE : ms_WT E) (u : ms_St) (a0 : Int32)  (post : Int32 → ms_St → Prop) (h : wp_X11_walker E u a0 post) : ms_MetI l ⟨"CensusWalkModel", "walker", "(I)I"⟩ (Cond.code ⟨"CensusWalkModel", "walker", "(I)I"⟩ prog_13_method_9_code 1 (some .int) :: lw_g) ({ frames := 0, cells := 0, slots := 0, locals := 0 } : Room) G cy L E [.int a0] u post 0 0 := by
  refine ms_enterI (lv := [(0, .int a0)]) (by decide) (Nat.le_of_ble_eq_true rfl) rfl ?_
  intro p e s m args below meth c A C hr hlocks
  unfold wp_X11_walker at h
  refine a_sipush (v := 168) C dX11_walker_0 (by decide) rfl ?_
  refine a_bipush (v := 15) C dX11_walker_3 (by decide) rfl ?_
  refine a_iload_n C dX11_walker_5 rfl 0 rfl rfl ?_
  refine a_imul C dX11_walker_6 rfl ?_
  refine a_iadd C dX11_walker_7 rfl ?_
  exact a_iret C dX11_walker_8 hr hlocks (Nat.le_of_ble_eq_true rfl) (Nat.le_of_ble_eq_true rfl) h

/-! CensusWalkModel.append(IIIII)I -/
theorem pd_X11_append : (⟨"CensusWalkModel", "append", "(IIIII)I"⟩ : MethodName).cls = "CensusWalkModel" ∧ (⟨"CensusWalkModel", "append", "(IIIII)I"⟩ : MethodName).cls ≠ "java/lang/invoke/MethodHandle" ∧ (⟨"CensusWalkModel", "append", "(IIIII)I"⟩ : MethodName).cls ≠ "java/lang/invoke/VarHandle" ∧ (parseMethodDescriptor (⟨"CensusWalkModel", "append", "(IIIII)I"⟩ : MethodName).desc).map (fun d => d.parameters.length) = some 5 := by decide +kernel
def wp_X11_append_76 (E : ms_En) (o : Nat) (a1 : Int32) (a2 : Int32) (a3 : Int32) (a4 : Int32) (a5 : Int32) (post : Int32 → ms_St → Prop) (k23 : ms_St → Int32 → Prop) (u : ms_St) (x6 : Int32) (z0 : Int32) : Prop := vp_in (ms_I u o 2) 900 ∧ (∀ w103 : ms_St, w103 = (ms_sI u (ms_at E o 1) (Int32.toNatClampNeg (ms_I u o 2)) ((z0 >>> ((24 - (8 * (x6 - x6 / 4 * 4))) &&& 31)) &&& 255)) → (k23 (ms_sI w103 o 2 ((ms_I w103 o 2) + 1)) (x6 + 1)))
set_option maxHeartbeats 4000000 in
set_option maxRecDepth 100000 in
theorem c_X11_append_76 {p : Program} {l : Launch} {e : Env} {s : State} {m : MethodId} {args : Array Value} {below : List Frame} {meth : Method} {c : Code} {G : va_G} {cy : Nat → ClassId} {A : Nat → Prop} {L : Nat → Nat} {E : ms_En} (C : ms_Cx p m c cX11_append 8 s args (Cond.code ⟨"CensusWalkModel", "append", "(IIIII)I"⟩ prog_13_method_10_code 8 (some .int)) "CensusWalkModel" G cy A) (hr : meth.sig.returnType = (some .int)) (hlocks : meth.locks = false) (hE : ms_WT E) {o : Nat} {a1 : Int32} {a2 : Int32} {a3 : Int32} {a4 : Int32} {a5 : Int32} {post : Int32 → ms_St → Prop} {k23 : ms_St → Int32 → Prop} (ho : ms_is E o 11) (hk23 : ∀ (u : ms_St) (x6 : Int32), k23 u x6 → ms_At p l e ({ frames := 0, cells := 0, slots := 0, locals := 0 } : Room) s m args below meth c 8 G cy A L 0 0 (ms_QI below args s G cy L E A post 0 0) E u 23 [(0, .ref (L o)), (1, .int a1), (2, .int a2), (3, .int a3), (4, .int a4), (5, .int a5), (6, .int x6)] []) (u : ms_St) (x6 : Int32) (z0 : Int32)  (h : wp_X11_append_76 E o a1 a2 a3 a4 a5 post k23 u x6 z0) : ms_At p l e ({ frames := 0, cells := 0, slots := 0, locals := 0 } : Room) s m args below meth c 8 G cy A L 0 0 (ms_QI below args s G cy L E A post 0 0) E u 76 [(0, .ref (L o)), (1, .int a1), (2, .int a2), (3, .int a3), (4, .int a4), (5, .int a5), (6, .int x6)] [.int z0] := by
  unfold wp_X11_append_76 at h
  refine a_istore (lv' := [(0, .ref (L o)), (1, .int a1), (2, .int a2), (3, .int a3), (4, .int a4), (5, .int a5), (6, .int x6), (7, .int z0)]) C dX11_append_76 (by decide) [1, 2, 3, 4, 5, 6, 7, 0] rfl rfl ?_
  refine a_aload_n C dX11_append_78 rfl 0 rfl rfl ?_
  refine g_11_1 C hE dX11_append_79 ho kw_5_223 rfl ?_
  have k79 : ms_is E (ms_at E o 1) 13 := ms_wt hE ho rfl (by decide)
  have n79 : ms_N E (ms_at E o 1) = 900 := ms_wl hE ho (by decide) (by decide) rfl
  refine a_aload_n C dX11_append_82 rfl 0 rfl rfl ?_
  refine g_11_2 C dX11_append_83 ho kw_5_224 rfl ?_
  refine a_iload C dX11_append_86 7 rfl rfl ?_
  refine a_bipush (v := 24) C dX11_append_88 (by decide) rfl ?_
  refine a_bipush (v := 8) C dX11_append_90 (by decide) rfl ?_
  refine a_iload C dX11_append_92 6 rfl rfl ?_
  refine a_iconst (v := 4) C dX11_append_94 (by decide) rfl ?_
  refine a_irem C dX11_append_95 (by decide) rfl ?_
  refine a_imul C dX11_append_96 rfl ?_
  refine a_isub C dX11_append_97 rfl ?_
  refine a_ishr C dX11_append_98 rfl ?_
  refine a_sipush (v := 255) C dX11_append_99 (by decide) rfl ?_
  refine a_iand C dX11_append_102 rfl ?_
  obtain ⟨q103, h⟩ := h
  refine a_iast C dX11_append_103 k79 n79 q103 rfl ?_
  refine a_nmU (fun w103 e103 => ?_)
  replace h := h w103 e103
  refine a_aload_n C dX11_append_104 rfl 0 rfl rfl ?_
  refine a_dup C dX11_append_105 rfl rfl ?_
  refine g_11_2 C dX11_append_106 ho kw_5_224 rfl ?_
  refine a_iconst (v := 1) C dX11_append_109 (by decide) rfl ?_
  refine a_iadd C dX11_append_110 rfl ?_
  refine s_11_2 C dX11_append_111 ho kw_5_224 rfl ?_
  refine a_iinc (lv' := [(0, .ref (L o)), (1, .int a1), (2, .int a2), (3, .int a3), (4, .int a4), (5, .int a5), (6, .int (x6 + 1)), (7, .int z0)]) (v := (x6 + 1)) C dX11_append_114 6 rfl (congrArg (fun z => x6 + z) (by decide)) (by decide) [1, 2, 3, 4, 5, 6, 0, 7] rfl rfl ?_
  refine a_goto (tgt := 23) C dX11_append_117 (by decide) ?_
  refine a_sub (lv' := [(0, .ref (L o)), (1, .int a1), (2, .int a2), (3, .int a3), (4, .int a4), (5, .int a5), (6, .int (x6 + 1))]) [0, 1, 2, 3, 4, 5, 6] rfl ?_
  exact hk23 (ms_sI w103 o 2 ((ms_I w103 o 2) + 1)) (x6 + 1)  h
def wp_X11_append_23 (E : ms_En) (o : Nat) (a1 : Int32) (a2 : Int32) (a3 : Int32) (a4 : Int32) (a5 : Int32) (post : Int32 → ms_St → Prop)  : Nat → ms_St → Int32 → Prop
  | 0 => fun _ _ => False
  | n + 1 => fun u x6 => (20 ≤ x6 → post (ms_I u o 2) u) ∧ (¬ 20 ≤ x6 → (4 ≤ x6 → (8 ≤ x6 → (12 ≤ x6 → (16 ≤ x6 → wp_X11_append_76 E o a1 a2 a3 a4 a5 post (wp_X11_append_23 E o a1 a2 a3 a4 a5 post n) u x6 a5) ∧ (¬ 16 ≤ x6 → wp_X11_append_76 E o a1 a2 a3 a4 a5 post (wp_X11_append_23 E o a1 a2 a3 a4 a5 post n) u x6 a4)) ∧ (¬ 12 ≤ x6 → wp_X11_append_76 E o a1 a2 a3 a4 a5 post (wp_X11_append_23 E o a1 a2 a3 a4 a5 post n) u x6 a3)) ∧ (¬ 8 ≤ x6 → wp_X11_append_76 E o a1 a2 a3 a4 a5 post (wp_X11_append_23 E o a1 a2 a3 a4 a5 post n) u x6 a2)) ∧ (¬ 4 ≤ x6 → wp_X11_append_76 E o a1 a2 a3 a4 a5 post (wp_X11_append_23 E o a1 a2 a3 a4 a5 post n) u x6 a1))
set_option maxHeartbeats 4000000 in
set_option maxRecDepth 100000 in
theorem c_X11_append_23 {p : Program} {l : Launch} {e : Env} {s : State} {m : MethodId} {args : Array Value} {below : List Frame} {meth : Method} {c : Code} {G : va_G} {cy : Nat → ClassId} {A : Nat → Prop} {L : Nat → Nat} {E : ms_En} (C : ms_Cx p m c cX11_append 8 s args (Cond.code ⟨"CensusWalkModel", "append", "(IIIII)I"⟩ prog_13_method_10_code 8 (some .int)) "CensusWalkModel" G cy A) (hr : meth.sig.returnType = (some .int)) (hlocks : meth.locks = false) (hE : ms_WT E) {o : Nat} {a1 : Int32} {a2 : Int32} {a3 : Int32} {a4 : Int32} {a5 : Int32} {post : Int32 → ms_St → Prop}  (ho : ms_is E o 11)  : ∀ (n : Nat) (u : ms_St) (x6 : Int32), wp_X11_append_23 E o a1 a2 a3 a4 a5 post n u x6 → ms_At p l e ({ frames := 0, cells := 0, slots := 0, locals := 0 } : Room) s m args below meth c 8 G cy A L 0 0 (ms_QI below args s G cy L E A post 0 0) E u 23 [(0, .ref (L o)), (1, .int a1), (2, .int a2), (3, .int a3), (4, .int a4), (5, .int a5), (6, .int x6)] [] := by
  intro n
  induction n with
  | zero =>
    intro u x6  h
    exact absurd h id
  | succ n ih =>
    intro u x6  h
    unfold wp_X11_append_23 at h
    refine a_iload C dX11_append_23 6 rfl rfl ?_
    refine a_bipush (v := 20) C dX11_append_25 (by decide) rfl ?_
    refine a_icmp_ge (tgt := 120) C dX11_append_27 (by decide) rfl (fun hc => ?_) (fun hc => ?_)
    · replace h := h.1 hc
      refine a_aload_n C dX11_append_120 rfl 0 rfl rfl ?_
      refine g_11_2 C dX11_append_121 ho kw_5_224 rfl ?_
      exact a_iret C dX11_append_124 hr hlocks (Nat.le_of_ble_eq_true rfl) (Nat.le_of_ble_eq_true rfl) h
    · replace h := h.2 hc
      refine a_iload C dX11_append_30 6 rfl rfl ?_
      refine a_iconst (v := 4) C dX11_append_32 (by decide) rfl ?_
      refine a_icmp_ge (tgt := 40) C dX11_append_33 (by decide) rfl (fun hc => ?_) (fun hc => ?_)
      · replace h := h.1 hc
        refine a_iload C dX11_append_40 6 rfl rfl ?_
        refine a_bipush (v := 8) C dX11_append_42 (by decide) rfl ?_
        refine a_icmp_ge (tgt := 51) C dX11_append_44 (by decide) rfl (fun hc => ?_) (fun hc => ?_)
        · replace h := h.1 hc
          refine a_iload C dX11_append_51 6 rfl rfl ?_
          refine a_bipush (v := 12) C dX11_append_53 (by decide) rfl ?_
          refine a_icmp_ge (tgt := 62) C dX11_append_55 (by decide) rfl (fun hc => ?_) (fun hc => ?_)
          · replace h := h.1 hc
            refine a_iload C dX11_append_62 6 rfl rfl ?_
            refine a_bipush (v := 16) C dX11_append_64 (by decide) rfl ?_
            refine a_icmp_ge (tgt := 74) C dX11_append_66 (by decide) rfl (fun hc => ?_) (fun hc => ?_)
            · replace h := h.1 hc
              refine a_iload C dX11_append_74 5 rfl rfl ?_
              exact c_X11_append_76 C hr hlocks hE ho ih u x6 a5  h
            · replace h := h.2 hc
              refine a_iload C dX11_append_69 4 rfl rfl ?_
              refine a_goto (tgt := 76) C dX11_append_71 (by decide) ?_
              exact c_X11_append_76 C hr hlocks hE ho ih u x6 a4  h
          · replace h := h.2 hc
            refine a_iload_n C dX11_append_58 rfl 3 rfl rfl ?_
            refine a_goto (tgt := 76) C dX11_append_59 (by decide) ?_
            exact c_X11_append_76 C hr hlocks hE ho ih u x6 a3  h
        · replace h := h.2 hc
          refine a_iload_n C dX11_append_47 rfl 2 rfl rfl ?_
          refine a_goto (tgt := 76) C dX11_append_48 (by decide) ?_
          exact c_X11_append_76 C hr hlocks hE ho ih u x6 a2  h
      · replace h := h.2 hc
        refine a_iload_n C dX11_append_36 rfl 1 rfl rfl ?_
        refine a_goto (tgt := 76) C dX11_append_37 (by decide) ?_
        exact c_X11_append_76 C hr hlocks hE ho ih u x6 a1  h
def wp_X11_append (E : ms_En) (u : ms_St) (o : Nat) (a1 : Int32) (a2 : Int32) (a3 : Int32) (a4 : Int32) (a5 : Int32) (post : Int32 → ms_St → Prop) : Prop := (((ms_I (ms_sI u o 0 0) o 2) + 20) ≤ 900 → ∃ n23, wp_X11_append_23 E o a1 a2 a3 a4 a5 post n23 (ms_sI u o 0 0) 0) ∧ (¬ ((ms_I (ms_sI u o 0 0) o 2) + 20) ≤ 900 → post (-1) (ms_sI u o 0 0))
set_option maxHeartbeats 4000000 in
set_option maxRecDepth 100000 in
theorem c_X11_append (l : Launch) (G : va_G) (cy : Nat → ClassId) (L : Nat → Nat) (E : ms_En) (hE : ms_WT E) (u : ms_St) (o : Nat) (a1 : Int32) (a2 : Int32) (a3 : Int32) (a4 : Int32) (a5 : Int32) (ho : ms_is E o 11) (post : Int32 → ms_St → Prop) (h : wp_X11_append E u o a1 a2 a3 a4 a5 post) : ms_MetI l ⟨"CensusWalkModel", "append", "(IIIII)I"⟩ (Cond.code ⟨"CensusWalkModel", "append", "(IIIII)I"⟩ prog_13_method_10_code 8 (some .int) :: lw_g) ({ frames := 0, cells := 0, slots := 0, locals := 0 } : Room) G cy L E [.ref (L o), .int a1, .int a2, .int a3, .int a4, .int a5] u post 0 0 := by
  refine ms_enterI (lv := [(0, .ref (L o)), (1, .int a1), (2, .int a2), (3, .int a3), (4, .int a4), (5, .int a5)]) (by decide) (Nat.le_of_ble_eq_true rfl) rfl ?_
  intro p e s m args below meth c A C hr hlocks
  unfold wp_X11_append at h
  refine a_aload_n C dX11_append_0 rfl 0 rfl rfl ?_
  refine a_iconst (v := 0) C dX11_append_1 (by decide) rfl ?_
  refine s_11_0 C dX11_append_2 ho kw_5_222 rfl ?_
  refine a_aload_n C dX11_append_5 rfl 0 rfl rfl ?_
  refine g_11_2 C dX11_append_6 ho kw_5_224 rfl ?_
  refine a_bipush (v := 20) C dX11_append_9 (by decide) rfl ?_
  refine a_iadd C dX11_append_11 rfl ?_
  refine a_sipush (v := 900) C dX11_append_12 (by decide) rfl ?_
  refine a_icmp_le (tgt := 20) C dX11_append_15 (by decide) rfl (fun hc => ?_) (fun hc => ?_)
  · replace h := h.1 hc
    refine a_iconst (v := 0) C dX11_append_20 (by decide) rfl ?_
    refine a_istore (lv' := [(0, .ref (L o)), (1, .int a1), (2, .int a2), (3, .int a3), (4, .int a4), (5, .int a5), (6, .int 0)]) C dX11_append_21 (by decide) [1, 2, 3, 4, 5, 6, 0] rfl rfl ?_
    obtain ⟨n9, h⟩ := h
    exact c_X11_append_23 C hr hlocks hE ho  n9 (ms_sI u o 0 0) 0  h
  · replace h := h.2 hc
    refine a_iconst (v := (-1)) C dX11_append_18 (by decide) rfl ?_
    exact a_iret C dX11_append_19 hr hlocks (Nat.le_of_ble_eq_true rfl) (Nat.le_of_ble_eq_true rfl) h

/-! CensusWalkModel.report(II)V -/
theorem pd_X11_report : (⟨"CensusWalkModel", "report", "(II)V"⟩ : MethodName).cls = "CensusWalkModel" ∧ (⟨"CensusWalkModel", "report", "(II)V"⟩ : MethodName).cls ≠ "java/lang/invoke/MethodHandle" ∧ (⟨"CensusWalkModel", "report", "(II)V"⟩ : MethodName).cls ≠ "java/lang/invoke/VarHandle" ∧ (parseMethodDescriptor (⟨"CensusWalkModel", "report", "(II)V"⟩ : MethodName).desc).map (fun d => d.parameters.length) = some 2 := by decide +kernel
def wp_X11_report (E : ms_En) (u : ms_St) (o : Nat) (a1 : Int32) (a2 : Int32) (post : ms_St → Prop) : Prop := ((ms_I u o 5) = 0 → post (ms_sI (ms_sI u o 5 a1) o 6 a2)) ∧ (¬ (ms_I u o 5) = 0 → post u)
set_option maxHeartbeats 4000000 in
set_option maxRecDepth 100000 in
theorem c_X11_report (l : Launch) (G : va_G) (cy : Nat → ClassId) (L : Nat → Nat) (E : ms_En) (hE : ms_WT E) (u : ms_St) (o : Nat) (a1 : Int32) (a2 : Int32) (ho : ms_is E o 11) (post : ms_St → Prop) (h : wp_X11_report E u o a1 a2 post) : ms_MetV l ⟨"CensusWalkModel", "report", "(II)V"⟩ (Cond.code ⟨"CensusWalkModel", "report", "(II)V"⟩ prog_13_method_14_code 3 none :: lw_g) ({ frames := 0, cells := 0, slots := 0, locals := 0 } : Room) G cy L E [.ref (L o), .int a1, .int a2] u post 0 0 := by
  refine ms_enterV (lv := [(0, .ref (L o)), (1, .int a1), (2, .int a2)]) (by decide) (Nat.le_of_ble_eq_true rfl) rfl ?_
  intro p e s m args below meth c A C hr hlocks
  unfold wp_X11_report at h
  refine a_aload_n C dX11_report_0 rfl 0 rfl rfl ?_
  refine g_11_5 C dX11_report_1 ho kw_5_227 rfl ?_
  refine a_if_eq (tgt := 8) C dX11_report_4 (by decide) rfl (fun hc => ?_) (fun hc => ?_)
  · replace h := h.1 hc
    refine a_aload_n C dX11_report_8 rfl 0 rfl rfl ?_
    refine a_iload_n C dX11_report_9 rfl 1 rfl rfl ?_
    refine s_11_5 C dX11_report_10 ho kw_5_227 rfl ?_
    refine a_aload_n C dX11_report_13 rfl 0 rfl rfl ?_
    refine a_iload_n C dX11_report_14 rfl 2 rfl rfl ?_
    refine s_11_6 C dX11_report_15 ho kw_5_228 rfl ?_
    exact a_vret C dX11_report_18 hr hlocks (Nat.le_of_ble_eq_true rfl) (Nat.le_of_ble_eq_true rfl) h
  · replace h := h.2 hc
    exact a_vret C dX11_report_7 hr hlocks (Nat.le_of_ble_eq_true rfl) (Nat.le_of_ble_eq_true rfl) h

/-! CensusWalkModel.isDigit(I)Z -/
theorem pd_X11_isDigit : (⟨"CensusWalkModel", "isDigit", "(I)Z"⟩ : MethodName).cls ≠ "java/lang/invoke/MethodHandle" ∧ (⟨"CensusWalkModel", "isDigit", "(I)Z"⟩ : MethodName).cls ≠ "java/lang/invoke/VarHandle" ∧ (parseMethodDescriptor (⟨"CensusWalkModel", "isDigit", "(I)Z"⟩ : MethodName).desc).map (fun d => d.parameters.length) = some 1 := by decide +kernel
def wp_X11_isDigit (E : ms_En) (u : ms_St) (a0 : Int32) (post : Int32 → ms_St → Prop) : Prop := wp_X11_in E u a0 48 57 (fun r5 u5 => (r5 = 0 ∨ r5 = 1) ∧ (post r5 u5))
set_option maxHeartbeats 4000000 in
set_option maxRecDepth 100000 in
theorem c_X11_isDigit (l : Launch) (G : va_G) (cy : Nat → ClassId) (L : Nat → Nat) (E : ms_En) (hE : ms_WT E) (u : ms_St) (a0 : Int32)  (post : Int32 → ms_St → Prop) (h : wp_X11_isDigit E u a0 post) : ms_MetI l ⟨"CensusWalkModel", "isDigit", "(I)Z"⟩ (Cond.code ⟨"CensusWalkModel", "isDigit", "(I)Z"⟩ prog_13_method_15_code 1 (some .boolean) :: lw_g) ({ frames := 1, cells := 0, slots := 0, locals := 22 } : Room) G cy L E [.int a0] u post 0 0 := by
  refine ms_enterI (lv := [(0, .int a0)]) (by decide) (Nat.le_of_ble_eq_true rfl) rfl ?_
  intro p e s m args below meth c A C hr hlocks
  unfold wp_X11_isDigit at h
  refine a_iload_n C dX11_isDigit_0 rfl 0 rfl rfl ?_
  refine a_bipush (v := 48) C dX11_isDigit_1 (by decide) rfl ?_
  refine a_bipush (v := 57) C dX11_isDigit_3 (by decide) rfl ?_
  refine a_callSI C (c_X11_in l G cy L E hE u a0 48 57  _ h) kw_6_98 kw_6_99 kw_1_12 kw_6_100 rfl rfl pd_X11_in ⟨(Nat.le_of_ble_eq_true rfl), (Nat.le_of_ble_eq_true rfl)⟩ dX11_isDigit_5 rfl (Nat.le_of_ble_eq_true rfl) ⟨(Nat.le_of_ble_eq_true rfl), (Nat.le_of_ble_eq_true rfl)⟩ rfl (fun r5 u5 h => ?_)
  obtain ⟨q8, h⟩ := h
  exact a_zret C dX11_isDigit_8 hr hlocks (Nat.le_of_ble_eq_true rfl) (Nat.le_of_ble_eq_true rfl) (ms_nz q8) h

/-! CensusWalkModel.expect(I)V -/
theorem pd_X11_expect : (⟨"CensusWalkModel", "expect", "(I)V"⟩ : MethodName).cls = "CensusWalkModel" ∧ (⟨"CensusWalkModel", "expect", "(I)V"⟩ : MethodName).cls ≠ "java/lang/invoke/MethodHandle" ∧ (⟨"CensusWalkModel", "expect", "(I)V"⟩ : MethodName).cls ≠ "java/lang/invoke/VarHandle" ∧ (parseMethodDescriptor (⟨"CensusWalkModel", "expect", "(I)V"⟩ : MethodName).desc).map (fun d => d.parameters.length) = some 1 := by decide +kernel
def wp_X11_expect_39 (E : ms_En) (o : Nat) (a1 : Int32) (post : ms_St → Prop)  (u : ms_St)  : Prop := post u
set_option maxHeartbeats 4000000 in
set_option maxRecDepth 100000 in
theorem c_X11_expect_39 {p : Program} {l : Launch} {e : Env} {s : State} {m : MethodId} {args : Array Value} {below : List Frame} {meth : Method} {c : Code} {G : va_G} {cy : Nat → ClassId} {A : Nat → Prop} {L : Nat → Nat} {E : ms_En} (C : ms_Cx p m c cX11_expect 2 s args (Cond.code ⟨"CensusWalkModel", "expect", "(I)V"⟩ prog_13_method_17_code 2 none) "CensusWalkModel" G cy A) (hr : meth.sig.returnType = none) (hlocks : meth.locks = false) (hE : ms_WT E) {o : Nat} {a1 : Int32} {post : ms_St → Prop}  (ho : ms_is E o 11)  (u : ms_St)   (h : wp_X11_expect_39 E o a1 post u ) : ms_At p l e ({ frames := 2, cells := 0, slots := 0, locals := 41 } : Room) s m args below meth c 2 G cy A L 0 0 (ms_QV below args s G cy L E A post 0 0) E u 39 [] [] := by
  unfold wp_X11_expect_39 at h
  exact a_vret C dX11_expect_39 hr hlocks (Nat.le_of_ble_eq_true rfl) (Nat.le_of_ble_eq_true rfl) h
def wp_X11_expect (E : ms_En) (u : ms_St) (o : Nat) (a1 : Int32) (post : ms_St → Prop) : Prop := wp_X11_isGood E u o (fun r1 u1 => (r1 = 0 → post u1) ∧ (¬ r1 = 0 → wp_X11_next E u1 o (fun r9 u9 => (r9 = a1 → wp_X11_expect_39 E o a1 post (ms_sI u9 o 4 ((ms_I u9 o 4) + 1))) ∧ (¬ r9 = a1 → wp_X11_report E u9 o (-2) (ms_I u9 o 4) (fun u36 => wp_X11_expect_39 E o a1 post u36)))))
set_option maxHeartbeats 4000000 in
set_option maxRecDepth 100000 in
theorem c_X11_expect (l : Launch) (G : va_G) (cy : Nat → ClassId) (L : Nat → Nat) (E : ms_En) (hE : ms_WT E) (u : ms_St) (o : Nat) (a1 : Int32) (ho : ms_is E o 11) (post : ms_St → Prop) (h : wp_X11_expect E u o a1 post) : ms_MetV l ⟨"CensusWalkModel", "expect", "(I)V"⟩ (Cond.code ⟨"CensusWalkModel", "expect", "(I)V"⟩ prog_13_method_17_code 2 none :: lw_g) ({ frames := 2, cells := 0, slots := 0, locals := 41 } : Room) G cy L E [.ref (L o), .int a1] u post 0 0 := by
  refine ms_enterV (lv := [(0, .ref (L o)), (1, .int a1)]) (by decide) (Nat.le_of_ble_eq_true rfl) rfl ?_
  intro p e s m args below meth c A C hr hlocks
  unfold wp_X11_expect at h
  refine a_aload_n C dX11_expect_0 rfl 0 rfl rfl ?_
  refine a_callVI C (c_X11_isGood l G cy L E hE u o ho _ h) ho rfl (by decide) kw_6_110 kw_6_112 kp_45 kw_1_12 kw_6_113 rfl rfl pd_X11_isGood ⟨(Nat.le_of_ble_eq_true rfl), (Nat.le_of_ble_eq_true rfl)⟩ dX11_expect_1 rfl (Nat.le_of_ble_eq_true rfl) ⟨(Nat.le_of_ble_eq_true rfl), (Nat.le_of_ble_eq_true rfl)⟩ rfl (fun r1 u1 h => ?_)
  refine a_if_ne (tgt := 8) C dX11_expect_4 (by decide) rfl (fun hc => ?_) (fun hc => ?_)
  · replace h := h.2 hc
    refine a_aload_n C dX11_expect_8 rfl 0 rfl rfl ?_
    refine a_callVI C (c_X11_next l G cy L E hE u1 o ho _ h) ho rfl (by decide) kw_6_114 kw_6_116 kp_46 kw_1_12 kw_6_117 rfl rfl pd_X11_next ⟨(Nat.le_of_ble_eq_true rfl), (Nat.le_of_ble_eq_true rfl)⟩ dX11_expect_9 rfl (Nat.le_of_ble_eq_true rfl) ⟨(Nat.le_of_ble_eq_true rfl), (Nat.le_of_ble_eq_true rfl)⟩ rfl (fun r9 u9 h => ?_)
    refine a_iload_n C dX11_expect_12 rfl 1 rfl rfl ?_
    refine a_icmp_ne (tgt := 29) C dX11_expect_13 (by decide) rfl (fun hc => ?_) (fun hc => ?_)
    · replace h := h.2 hc
      refine a_aload_n C dX11_expect_29 rfl 0 rfl rfl ?_
      refine a_bipush (v := (-2)) C dX11_expect_30 (by decide) rfl ?_
      refine a_aload_n C dX11_expect_32 rfl 0 rfl rfl ?_
      refine g_11_4 C dX11_expect_33 ho kw_5_226 rfl ?_
      refine a_callVV C (c_X11_report l G cy L E hE u9 o (-2) (ms_I u9 o 4) ho _ h) ho rfl (by decide) kw_6_124 kw_6_126 kp_48 kw_1_12 kw_6_127 rfl rfl pd_X11_report ⟨(Nat.le_of_ble_eq_true rfl), (Nat.le_of_ble_eq_true rfl)⟩ dX11_expect_36 rfl (Nat.le_of_ble_eq_true rfl) ⟨(Nat.le_of_ble_eq_true rfl), (Nat.le_of_ble_eq_true rfl)⟩ rfl (fun u36 h => ?_)
      refine a_sub (lv' := []) [] rfl ?_
      exact c_X11_expect_39 C hr hlocks hE ho  u36  h
    · replace h := h.1 hc
      refine a_aload_n C dX11_expect_16 rfl 0 rfl rfl ?_
      refine a_dup C dX11_expect_17 rfl rfl ?_
      refine g_11_4 C dX11_expect_18 ho kw_5_226 rfl ?_
      refine a_iconst (v := 1) C dX11_expect_21 (by decide) rfl ?_
      refine a_iadd C dX11_expect_22 rfl ?_
      refine s_11_4 C dX11_expect_23 ho kw_5_226 rfl ?_
      refine a_goto (tgt := 39) C dX11_expect_26 (by decide) ?_
      refine a_sub (lv' := []) [] rfl ?_
      exact c_X11_expect_39 C hr hlocks hE ho  (ms_sI u9 o 4 ((ms_I u9 o 4) + 1))  h
  · replace h := h.1 hc
    exact a_vret C dX11_expect_7 hr hlocks (Nat.le_of_ble_eq_true rfl) (Nat.le_of_ble_eq_true rfl) h

/-! CensusWalkModel.number(II)I -/
theorem pd_X11_number : (⟨"CensusWalkModel", "number", "(II)I"⟩ : MethodName).cls = "CensusWalkModel" ∧ (⟨"CensusWalkModel", "number", "(II)I"⟩ : MethodName).cls ≠ "java/lang/invoke/MethodHandle" ∧ (⟨"CensusWalkModel", "number", "(II)I"⟩ : MethodName).cls ≠ "java/lang/invoke/VarHandle" ∧ (parseMethodDescriptor (⟨"CensusWalkModel", "number", "(II)I"⟩ : MethodName).desc).map (fun d => d.parameters.length) = some 2 := by decide +kernel
def wp_X11_number_109 (E : ms_En) (o : Nat) (a1 : Int32) (a2 : Int32) (post : Int32 → ms_St → Prop)  (u : ms_St) (x3 : Int32) : Prop := post x3 u
set_option maxHeartbeats 4000000 in
set_option maxRecDepth 100000 in
theorem c_X11_number_109 {p : Program} {l : Launch} {e : Env} {s : State} {m : MethodId} {args : Array Value} {below : List Frame} {meth : Method} {c : Code} {G : va_G} {cy : Nat → ClassId} {A : Nat → Prop} {L : Nat → Nat} {E : ms_En} (C : ms_Cx p m c cX11_number 4 s args (Cond.code ⟨"CensusWalkModel", "number", "(II)I"⟩ prog_13_method_18_code 4 (some .int)) "CensusWalkModel" G cy A) (hr : meth.sig.returnType = (some .int)) (hlocks : meth.locks = false) (hE : ms_WT E) {o : Nat} {a1 : Int32} {a2 : Int32} {post : Int32 → ms_St → Prop}  (ho : ms_is E o 11)  (u : ms_St) (x3 : Int32)  (h : wp_X11_number_109 E o a1 a2 post u x3) : ms_At p l e ({ frames := 2, cells := 0, slots := 0, locals := 42 } : Room) s m args below meth c 4 G cy A L 0 0 (ms_QI below args s G cy L E A post 0 0) E u 109 [(3, .int x3)] [] := by
  unfold wp_X11_number_109 at h
  refine a_iload_n C dX11_number_109 rfl 0 rfl rfl ?_
  exact a_iret C dX11_number_110 hr hlocks (Nat.le_of_ble_eq_true rfl) (Nat.le_of_ble_eq_true rfl) h
def wp_X11_number_41 (E : ms_En) (o : Nat) (a1 : Int32) (a2 : Int32) (post : Int32 → ms_St → Prop)  : Nat → ms_St → Int32 → Prop
  | 0 => fun _ _ => False
  | n + 1 => fun u x3 => wp_X11_byteAt E u o (ms_I u o 4) (fun r46 u46 => wp_X11_isDigit E u46 r46 (fun r49 u49 => (r49 = 0 → wp_X11_in E u49 x3 a1 a2 (fun r93 u93 => (r93 = 0 → wp_X11_report E u93 o (-3) (ms_I u93 o 12) (fun u106 => wp_X11_number_109 E o a1 a2 post u106 x3)) ∧ (¬ r93 = 0 → wp_X11_number_109 E o a1 a2 post u93 x3))) ∧ (¬ r49 = 0 → wp_X11_byteAt E u49 o (ms_I u49 o 4) (fun r66 u66 => wp_X11_min E u66 1000000 (((10 * x3) + r66) - 48) (fun r73 u73 => wp_X11_number_41 E o a1 a2 post n (ms_sI u73 o 4 ((ms_I u73 o 4) + 1)) r73)))))
set_option maxHeartbeats 4000000 in
set_option maxRecDepth 100000 in
theorem c_X11_number_41 {p : Program} {l : Launch} {e : Env} {s : State} {m : MethodId} {args : Array Value} {below : List Frame} {meth : Method} {c : Code} {G : va_G} {cy : Nat → ClassId} {A : Nat → Prop} {L : Nat → Nat} {E : ms_En} (C : ms_Cx p m c cX11_number 4 s args (Cond.code ⟨"CensusWalkModel", "number", "(II)I"⟩ prog_13_method_18_code 4 (some .int)) "CensusWalkModel" G cy A) (hr : meth.sig.returnType = (some .int)) (hlocks : meth.locks = false) (hE : ms_WT E) {o : Nat} {a1 : Int32} {a2 : Int32} {post : Int32 → ms_St → Prop}  (ho : ms_is E o 11)  : ∀ (n : Nat) (u : ms_St) (x3 : Int32), wp_X11_number_41 E o a1 a2 post n u x3 → ms_At p l e ({ frames := 2, cells := 0, slots := 0, locals := 42 } : Room) s m args below meth c 4 G cy A L 0 0 (ms_QI below args s G cy L E A post 0 0) E u 41 [(0, .ref (L o)), (1, .int a1), (2, .int a2), (3, .int x3)] [] := by
  intro n
  induction n with
  | zero =>
    intro u x3  h
    exact absurd h id
  | succ n ih =>
    intro u x3  h
    unfold wp_X11_number_41 at h
    refine a_aload_n C dX11_number_41 rfl 0 rfl rfl ?_
    refine a_aload_n C dX11_number_42 rfl 0 rfl rfl ?_
    refine g_11_4 C dX11_number_43 ho kw_5_226 rfl ?_
    refine a_callVI C (c_X11_byteAt l G cy L E hE u o (ms_I u o 4) ho _ h) ho rfl (by decide) kw_6_118 kw_6_120 kp_47 kw_1_12 kw_6_121 rfl rfl pd_X11_byteAt ⟨(Nat.le_of_ble_eq_true rfl), (Nat.le_of_ble_eq_true rfl)⟩ dX11_number_46 rfl (Nat.le_of_ble_eq_true rfl) ⟨(Nat.le_of_ble_eq_true rfl), (Nat.le_of_ble_eq_true rfl)⟩ rfl (fun r46 u46 h => ?_)
    refine a_callSI C (c_X11_isDigit l G cy L E hE u46 r46  _ h) kw_6_132 kw_6_133 kw_1_12 kw_6_134 rfl rfl pd_X11_isDigit ⟨(Nat.le_of_ble_eq_true rfl), (Nat.le_of_ble_eq_true rfl)⟩ dX11_number_49 rfl (Nat.le_of_ble_eq_true rfl) ⟨(Nat.le_of_ble_eq_true rfl), (Nat.le_of_ble_eq_true rfl)⟩ rfl (fun r49 u49 h => ?_)
    refine a_if_eq (tgt := 90) C dX11_number_52 (by decide) rfl (fun hc => ?_) (fun hc => ?_)
    · replace h := h.1 hc
      refine a_iload_n C dX11_number_90 rfl 3 rfl rfl ?_
      refine a_iload_n C dX11_number_91 rfl 1 rfl rfl ?_
      refine a_iload_n C dX11_number_92 rfl 2 rfl rfl ?_
      refine a_callSI C (c_X11_in l G cy L E hE u49 x3 a1 a2  _ h) kw_6_98 kw_6_99 kw_1_12 kw_6_100 rfl rfl pd_X11_in ⟨(Nat.le_of_ble_eq_true rfl), (Nat.le_of_ble_eq_true rfl)⟩ dX11_number_93 rfl (Nat.le_of_ble_eq_true rfl) ⟨(Nat.le_of_ble_eq_true rfl), (Nat.le_of_ble_eq_true rfl)⟩ rfl (fun r93 u93 h => ?_)
      refine a_if_ne (tgt := 109) C dX11_number_96 (by decide) rfl (fun hc => ?_) (fun hc => ?_)
      · replace h := h.2 hc
        refine a_sub (lv' := [(3, .int x3)]) [3] rfl ?_
        exact c_X11_number_109 C hr hlocks hE ho  u93 x3  h
      · replace h := h.1 hc
        refine a_aload_n C dX11_number_99 rfl 0 rfl rfl ?_
        refine a_bipush (v := (-3)) C dX11_number_100 (by decide) rfl ?_
        refine a_aload_n C dX11_number_102 rfl 0 rfl rfl ?_
        refine g_11_12 C dX11_number_103 ho kw_5_234 rfl ?_
        refine a_callVV C (c_X11_report l G cy L E hE u93 o (-3) (ms_I u93 o 12) ho _ h) ho rfl (by decide) kw_6_124 kw_6_126 kp_48 kw_1_12 kw_6_127 rfl rfl pd_X11_report ⟨(Nat.le_of_ble_eq_true rfl), (Nat.le_of_ble_eq_true rfl)⟩ dX11_number_106 rfl (Nat.le_of_ble_eq_true rfl) ⟨(Nat.le_of_ble_eq_true rfl), (Nat.le_of_ble_eq_true rfl)⟩ rfl (fun u106 h => ?_)
        refine a_sub (lv' := [(3, .int x3)]) [3] rfl ?_
        exact c_X11_number_109 C hr hlocks hE ho  u106 x3  h
    · replace h := h.2 hc
      refine a_ldc (v := 1000000) C dX11_number_55 kw_6_135 rfl ?_
      refine a_bipush (v := 10) C dX11_number_57 (by decide) rfl ?_
      refine a_iload_n C dX11_number_59 rfl 3 rfl rfl ?_
      refine a_imul C dX11_number_60 rfl ?_
      refine a_aload_n C dX11_number_61 rfl 0 rfl rfl ?_
      refine a_aload_n C dX11_number_62 rfl 0 rfl rfl ?_
      refine g_11_4 C dX11_number_63 ho kw_5_226 rfl ?_
      refine a_callVI C (c_X11_byteAt l G cy L E hE u49 o (ms_I u49 o 4) ho _ h) ho rfl (by decide) kw_6_118 kw_6_120 kp_47 kw_1_12 kw_6_121 rfl rfl pd_X11_byteAt ⟨(Nat.le_of_ble_eq_true rfl), (Nat.le_of_ble_eq_true rfl)⟩ dX11_number_66 rfl (Nat.le_of_ble_eq_true rfl) ⟨(Nat.le_of_ble_eq_true rfl), (Nat.le_of_ble_eq_true rfl)⟩ rfl (fun r66 u66 h => ?_)
      refine a_iadd C dX11_number_69 rfl ?_
      refine a_bipush (v := 48) C dX11_number_70 (by decide) rfl ?_
      refine a_isub C dX11_number_72 rfl ?_
      refine a_callSI C (c_X11_min l G cy L E hE u66 1000000 (((10 * x3) + r66) - 48)  _ h) kw_6_136 kw_6_137 kw_1_12 kw_6_138 rfl rfl pd_X11_min ⟨(Nat.le_of_ble_eq_true rfl), (Nat.le_of_ble_eq_true rfl)⟩ dX11_number_73 rfl (Nat.le_of_ble_eq_true rfl) ⟨(Nat.le_of_ble_eq_true rfl), (Nat.le_of_ble_eq_true rfl)⟩ rfl (fun r73 u73 h => ?_)
      refine a_istore_n (lv' := [(0, .ref (L o)), (1, .int a1), (2, .int a2), (3, .int r73)]) C dX11_number_76 rfl (by decide) [1, 2, 3, 0] rfl rfl ?_
      refine a_aload_n C dX11_number_77 rfl 0 rfl rfl ?_
      refine a_dup C dX11_number_78 rfl rfl ?_
      refine g_11_4 C dX11_number_79 ho kw_5_226 rfl ?_
      refine a_iconst (v := 1) C dX11_number_82 (by decide) rfl ?_
      refine a_iadd C dX11_number_83 rfl ?_
      refine s_11_4 C dX11_number_84 ho kw_5_226 rfl ?_
      refine a_goto (tgt := 41) C dX11_number_87 (by decide) ?_
      exact ih (ms_sI u73 o 4 ((ms_I u73 o 4) + 1)) r73  h
def wp_X11_number (E : ms_En) (u : ms_St) (o : Nat) (a1 : Int32) (a2 : Int32) (post : Int32 → ms_St → Prop) : Prop := wp_X11_isGood E u o (fun r1 u1 => (r1 = 0 → post 0 u1) ∧ (¬ r1 = 0 → wp_X11_next E u1 o (fun r10 u10 => wp_X11_isDigit E u10 r10 (fun r13 u13 => (r13 = 0 → wp_X11_report E u13 o (-2) (ms_I u13 o 4) (fun u26 => post 0 u26)) ∧ (¬ r13 = 0 → ∃ n41, wp_X11_number_41 E o a1 a2 post n41 (ms_sI u13 o 12 (ms_I u13 o 4)) 0)))))
set_option maxHeartbeats 4000000 in
set_option maxRecDepth 100000 in
theorem c_X11_number (l : Launch) (G : va_G) (cy : Nat → ClassId) (L : Nat → Nat) (E : ms_En) (hE : ms_WT E) (u : ms_St) (o : Nat) (a1 : Int32) (a2 : Int32) (ho : ms_is E o 11) (post : Int32 → ms_St → Prop) (h : wp_X11_number E u o a1 a2 post) : ms_MetI l ⟨"CensusWalkModel", "number", "(II)I"⟩ (Cond.code ⟨"CensusWalkModel", "number", "(II)I"⟩ prog_13_method_18_code 4 (some .int) :: lw_g) ({ frames := 2, cells := 0, slots := 0, locals := 42 } : Room) G cy L E [.ref (L o), .int a1, .int a2] u post 0 0 := by
  refine ms_enterI (lv := [(0, .ref (L o)), (1, .int a1), (2, .int a2)]) (by decide) (Nat.le_of_ble_eq_true rfl) rfl ?_
  intro p e s m args below meth c A C hr hlocks
  unfold wp_X11_number at h
  refine a_aload_n C dX11_number_0 rfl 0 rfl rfl ?_
  refine a_callVI C (c_X11_isGood l G cy L E hE u o ho _ h) ho rfl (by decide) kw_6_110 kw_6_112 kp_45 kw_1_12 kw_6_113 rfl rfl pd_X11_isGood ⟨(Nat.le_of_ble_eq_true rfl), (Nat.le_of_ble_eq_true rfl)⟩ dX11_number_1 rfl (Nat.le_of_ble_eq_true rfl) ⟨(Nat.le_of_ble_eq_true rfl), (Nat.le_of_ble_eq_true rfl)⟩ rfl (fun r1 u1 h => ?_)
  refine a_if_ne (tgt := 9) C dX11_number_4 (by decide) rfl (fun hc => ?_) (fun hc => ?_)
  · replace h := h.2 hc
    refine a_aload_n C dX11_number_9 rfl 0 rfl rfl ?_
    refine a_callVI C (c_X11_next l G cy L E hE u1 o ho _ h) ho rfl (by decide) kw_6_114 kw_6_116 kp_46 kw_1_12 kw_6_117 rfl rfl pd_X11_next ⟨(Nat.le_of_ble_eq_true rfl), (Nat.le_of_ble_eq_true rfl)⟩ dX11_number_10 rfl (Nat.le_of_ble_eq_true rfl) ⟨(Nat.le_of_ble_eq_true rfl), (Nat.le_of_ble_eq_true rfl)⟩ rfl (fun r10 u10 h => ?_)
    refine a_callSI C (c_X11_isDigit l G cy L E hE u10 r10  _ h) kw_6_132 kw_6_133 kw_1_12 kw_6_134 rfl rfl pd_X11_isDigit ⟨(Nat.le_of_ble_eq_true rfl), (Nat.le_of_ble_eq_true rfl)⟩ dX11_number_13 rfl (Nat.le_of_ble_eq_true rfl) ⟨(Nat.le_of_ble_eq_true rfl), (Nat.le_of_ble_eq_true rfl)⟩ rfl (fun r13 u13 h => ?_)
    refine a_if_ne (tgt := 31) C dX11_number_16 (by decide) rfl (fun hc => ?_) (fun hc => ?_)
    · replace h := h.2 hc
      refine a_aload_n C dX11_number_31 rfl 0 rfl rfl ?_
      refine a_aload_n C dX11_number_32 rfl 0 rfl rfl ?_
      refine g_11_4 C dX11_number_33 ho kw_5_226 rfl ?_
      refine s_11_12 C dX11_number_36 ho kw_5_234 rfl ?_
      refine a_iconst (v := 0) C dX11_number_39 (by decide) rfl ?_
      refine a_istore_n (lv' := [(0, .ref (L o)), (1, .int a1), (2, .int a2), (3, .int 0)]) C dX11_number_40 rfl (by decide) [1, 2, 3, 0] rfl rfl ?_
      obtain ⟨n9, h⟩ := h
      exact c_X11_number_41 C hr hlocks hE ho  n9 (ms_sI u13 o 12 (ms_I u13 o 4)) 0  h
    · replace h := h.1 hc
      refine a_aload_n C dX11_number_19 rfl 0 rfl rfl ?_
      refine a_bipush (v := (-2)) C dX11_number_20 (by decide) rfl ?_
      refine a_aload_n C dX11_number_22 rfl 0 rfl rfl ?_
      refine g_11_4 C dX11_number_23 ho kw_5_226 rfl ?_
      refine a_callVV C (c_X11_report l G cy L E hE u13 o (-2) (ms_I u13 o 4) ho _ h) ho rfl (by decide) kw_6_124 kw_6_126 kp_48 kw_1_12 kw_6_127 rfl rfl pd_X11_report ⟨(Nat.le_of_ble_eq_true rfl), (Nat.le_of_ble_eq_true rfl)⟩ dX11_number_26 rfl (Nat.le_of_ble_eq_true rfl) ⟨(Nat.le_of_ble_eq_true rfl), (Nat.le_of_ble_eq_true rfl)⟩ rfl (fun u26 h => ?_)
      refine a_iconst (v := 0) C dX11_number_29 (by decide) rfl ?_
      exact a_iret C dX11_number_30 hr hlocks (Nat.le_of_ble_eq_true rfl) (Nat.le_of_ble_eq_true rfl) h
  · replace h := h.1 hc
    refine a_iconst (v := 0) C dX11_number_7 (by decide) rfl ?_
    exact a_iret C dX11_number_8 hr hlocks (Nat.le_of_ble_eq_true rfl) (Nat.le_of_ble_eq_true rfl) h

/-! CensusWalkModel.emit(I)V -/
theorem pd_X11_emit : (⟨"CensusWalkModel", "emit", "(I)V"⟩ : MethodName).cls = "CensusWalkModel" ∧ (⟨"CensusWalkModel", "emit", "(I)V"⟩ : MethodName).cls ≠ "java/lang/invoke/MethodHandle" ∧ (⟨"CensusWalkModel", "emit", "(I)V"⟩ : MethodName).cls ≠ "java/lang/invoke/VarHandle" ∧ (parseMethodDescriptor (⟨"CensusWalkModel", "emit", "(I)V"⟩ : MethodName).desc).map (fun d => d.parameters.length) = some 1 := by decide +kernel
def wp_X11_emit (E : ms_En) (u : ms_St) (o : Nat) (a1 : Int32) (post : ms_St → Prop) : Prop := wp_X11_isGood E u o (fun r1 u1 => (r1 = 0 → post u1) ∧ (¬ r1 = 0 → vp_in 7 1613 ∧ (vp_in (213 + (ms_I u1 (ms_at E o 9) (Int32.toNatClampNeg 7))) 1613 ∧ (∀ w24 : ms_St, w24 = (ms_sI u1 (ms_at E o 9) (Int32.toNatClampNeg (213 + (ms_I u1 (ms_at E o 9) (Int32.toNatClampNeg 7)))) a1) → (vp_in 7 1613 ∧ (vp_in 7 1613 ∧ (∀ w35 : ms_St, w35 = (ms_sI w24 (ms_at E o 9) (Int32.toNatClampNeg 7) ((ms_I w24 (ms_at E o 9) (Int32.toNatClampNeg 7)) + 1)) → (post w35))))))))
set_option maxHeartbeats 4000000 in
set_option maxRecDepth 100000 in
theorem c_X11_emit (l : Launch) (G : va_G) (cy : Nat → ClassId) (L : Nat → Nat) (E : ms_En) (hE : ms_WT E) (u : ms_St) (o : Nat) (a1 : Int32) (ho : ms_is E o 11) (post : ms_St → Prop) (h : wp_X11_emit E u o a1 post) : ms_MetV l ⟨"CensusWalkModel", "emit", "(I)V"⟩ (Cond.code ⟨"CensusWalkModel", "emit", "(I)V"⟩ prog_13_method_19_code 2 none :: lw_g) ({ frames := 1, cells := 0, slots := 0, locals := 20 } : Room) G cy L E [.ref (L o), .int a1] u post 0 0 := by
  refine ms_enterV (lv := [(0, .ref (L o)), (1, .int a1)]) (by decide) (Nat.le_of_ble_eq_true rfl) rfl ?_
  intro p e s m args below meth c A C hr hlocks
  unfold wp_X11_emit at h
  refine a_aload_n C dX11_emit_0 rfl 0 rfl rfl ?_
  refine a_callVI C (c_X11_isGood l G cy L E hE u o ho _ h) ho rfl (by decide) kw_6_110 kw_6_112 kp_45 kw_1_12 kw_6_113 rfl rfl pd_X11_isGood ⟨(Nat.le_of_ble_eq_true rfl), (Nat.le_of_ble_eq_true rfl)⟩ dX11_emit_1 rfl (Nat.le_of_ble_eq_true rfl) ⟨(Nat.le_of_ble_eq_true rfl), (Nat.le_of_ble_eq_true rfl)⟩ rfl (fun r1 u1 h => ?_)
  refine a_if_ne (tgt := 8) C dX11_emit_4 (by decide) rfl (fun hc => ?_) (fun hc => ?_)
  · replace h := h.2 hc
    refine a_aload_n C dX11_emit_8 rfl 0 rfl rfl ?_
    refine g_11_9 C hE dX11_emit_9 ho kw_5_231 rfl ?_
    have k9 : ms_is E (ms_at E o 9) 13 := ms_wt hE ho rfl (by decide)
    have n9 : ms_N E (ms_at E o 9) = 1613 := ms_wl hE ho (by decide) (by decide) rfl
    refine a_sipush (v := 213) C dX11_emit_12 (by decide) rfl ?_
    refine a_aload_n C dX11_emit_15 rfl 0 rfl rfl ?_
    refine g_11_9 C hE dX11_emit_16 ho kw_5_231 rfl ?_
    refine a_bipush (v := 7) C dX11_emit_19 (by decide) rfl ?_
    obtain ⟨q21, h⟩ := h
    refine a_iald C dX11_emit_21 k9 n9 q21 rfl ?_
    refine a_iadd C dX11_emit_22 rfl ?_
    refine a_iload_n C dX11_emit_23 rfl 1 rfl rfl ?_
    obtain ⟨q24, h⟩ := h
    refine a_iast C dX11_emit_24 k9 n9 q24 rfl ?_
    refine a_nmU (fun w24 e24 => ?_)
    replace h := h w24 e24
    refine a_aload_n C dX11_emit_25 rfl 0 rfl rfl ?_
    refine g_11_9 C hE dX11_emit_26 ho kw_5_231 rfl ?_
    refine a_bipush (v := 7) C dX11_emit_29 (by decide) rfl ?_
    refine a_dup2 C dX11_emit_31 rfl rfl rfl ?_
    obtain ⟨q32, h⟩ := h
    refine a_iald C dX11_emit_32 k9 n9 q32 rfl ?_
    refine a_iconst (v := 1) C dX11_emit_33 (by decide) rfl ?_
    refine a_iadd C dX11_emit_34 rfl ?_
    obtain ⟨q35, h⟩ := h
    refine a_iast C dX11_emit_35 k9 n9 q35 rfl ?_
    refine a_nmU (fun w35 e35 => ?_)
    replace h := h w35 e35
    exact a_vret C dX11_emit_36 hr hlocks (Nat.le_of_ble_eq_true rfl) (Nat.le_of_ble_eq_true rfl) h
  · replace h := h.1 hc
    exact a_vret C dX11_emit_7 hr hlocks (Nat.le_of_ble_eq_true rfl) (Nat.le_of_ble_eq_true rfl) h

/-! CensusWalkModel.readStreet(I)V -/
theorem pd_X11_readStreet : (⟨"CensusWalkModel", "readStreet", "(I)V"⟩ : MethodName).cls = "CensusWalkModel" ∧ (⟨"CensusWalkModel", "readStreet", "(I)V"⟩ : MethodName).cls ≠ "java/lang/invoke/MethodHandle" ∧ (⟨"CensusWalkModel", "readStreet", "(I)V"⟩ : MethodName).cls ≠ "java/lang/invoke/VarHandle" ∧ (parseMethodDescriptor (⟨"CensusWalkModel", "readStreet", "(I)V"⟩ : MethodName).desc).map (fun d => d.parameters.length) = some 1 := by decide +kernel
def wp_X11_readStreet_103 (E : ms_En) (o : Nat) (a1 : Int32) (post : ms_St → Prop)  (u : ms_St) (x2 : Int32) : Prop := wp_X11_number E u o 1 99 (fun r114 u114 => vp_in (x2 + 2) 1613 ∧ (vp_in 1 1613 ∧ (vp_in 1 1613 ∧ (∀ w127 : ms_St, w127 = (ms_sI (ms_sI u114 (ms_at E o 9) (Int32.toNatClampNeg (x2 + 2)) r114) (ms_at E o 9) (Int32.toNatClampNeg 1) ((ms_I (ms_sI u114 (ms_at E o 9) (Int32.toNatClampNeg (x2 + 2)) r114) (ms_at E o 9) (Int32.toNatClampNeg 1)) + 1)) → (post w127)))))
set_option maxHeartbeats 4000000 in
set_option maxRecDepth 100000 in
theorem c_X11_readStreet_103 {p : Program} {l : Launch} {e : Env} {s : State} {m : MethodId} {args : Array Value} {below : List Frame} {meth : Method} {c : Code} {G : va_G} {cy : Nat → ClassId} {A : Nat → Prop} {L : Nat → Nat} {E : ms_En} (C : ms_Cx p m c cX11_readStreet 3 s args (Cond.code ⟨"CensusWalkModel", "readStreet", "(I)V"⟩ prog_13_method_23_code 3 none) "CensusWalkModel" G cy A) (hr : meth.sig.returnType = none) (hlocks : meth.locks = false) (hE : ms_WT E) {o : Nat} {a1 : Int32} {post : ms_St → Prop}  (ho : ms_is E o 11)  (u : ms_St) (x2 : Int32)  (h : wp_X11_readStreet_103 E o a1 post u x2) : ms_At p l e ({ frames := 3, cells := 0, slots := 0, locals := 65 } : Room) s m args below meth c 3 G cy A L 0 0 (ms_QV below args s G cy L E A post 0 0) E u 103 [(0, .ref (L o)), (2, .int x2)] [] := by
  unfold wp_X11_readStreet_103 at h
  refine a_aload_n C dX11_readStreet_103 rfl 0 rfl rfl ?_
  refine g_11_9 C hE dX11_readStreet_104 ho kw_5_231 rfl ?_
  have k104 : ms_is E (ms_at E o 9) 13 := ms_wt hE ho rfl (by decide)
  have n104 : ms_N E (ms_at E o 9) = 1613 := ms_wl hE ho (by decide) (by decide) rfl
  refine a_iload_n C dX11_readStreet_107 rfl 1 rfl rfl ?_
  refine a_iconst (v := 2) C dX11_readStreet_108 (by decide) rfl ?_
  refine a_iadd C dX11_readStreet_109 rfl ?_
  refine a_aload_n C dX11_readStreet_110 rfl 0 rfl rfl ?_
  refine a_iconst (v := 1) C dX11_readStreet_111 (by decide) rfl ?_
  refine a_bipush (v := 99) C dX11_readStreet_112 (by decide) rfl ?_
  refine a_callVI C (c_X11_number l G cy L E hE u o 1 99 ho _ h) ho rfl (by decide) kw_6_128 kw_6_130 kp_49 kw_1_12 kw_6_131 rfl rfl pd_X11_number ⟨(Nat.le_of_ble_eq_true rfl), (Nat.le_of_ble_eq_true rfl)⟩ dX11_readStreet_114 rfl (Nat.le_of_ble_eq_true rfl) ⟨(Nat.le_of_ble_eq_true rfl), (Nat.le_of_ble_eq_true rfl)⟩ rfl (fun r114 u114 h => ?_)
  obtain ⟨q117, h⟩ := h
  refine a_iast C dX11_readStreet_117 k104 n104 q117 rfl ?_
  refine a_aload_n C dX11_readStreet_118 rfl 0 rfl rfl ?_
  refine g_11_9 C hE dX11_readStreet_119 ho kw_5_231 rfl ?_
  refine a_iconst (v := 1) C dX11_readStreet_122 (by decide) rfl ?_
  refine a_dup2 C dX11_readStreet_123 rfl rfl rfl ?_
  obtain ⟨q124, h⟩ := h
  refine a_iald C dX11_readStreet_124 k104 n104 q124 rfl ?_
  refine a_iconst (v := 1) C dX11_readStreet_125 (by decide) rfl ?_
  refine a_iadd C dX11_readStreet_126 rfl ?_
  obtain ⟨q127, h⟩ := h
  refine a_iast C dX11_readStreet_127 k104 n104 q127 rfl ?_
  refine a_nmU (fun w127 e127 => ?_)
  replace h := h w127 e127
  exact a_vret C dX11_readStreet_128 hr hlocks (Nat.le_of_ble_eq_true rfl) (Nat.le_of_ble_eq_true rfl) h
def wp_X11_readStreet_18 (E : ms_En) (o : Nat) (a1 : Int32) (post : ms_St → Prop)  (u : ms_St)  : Prop := wp_X11_isGood E u o (fun r19 u19 => (r19 = 0 → post u19) ∧ (¬ r19 = 0 → vp_in 1 1613 ∧ (wp_X11_street E u19 (ms_I u19 (ms_at E o 9) (Int32.toNatClampNeg 1)) (fun r32 u32 => vp_in 0 1613 ∧ (wp_X11_number E u32 o 0 ((ms_I u32 (ms_at E o 9) (Int32.toNatClampNeg 0)) - 1) (fun r51 u51 => vp_in r32 1613 ∧ (vp_in 0 1613 ∧ (wp_X11_number E (ms_sI u51 (ms_at E o 9) (Int32.toNatClampNeg r32) r51) o 0 ((ms_I (ms_sI u51 (ms_at E o 9) (Int32.toNatClampNeg r32) r51) (ms_at E o 9) (Int32.toNatClampNeg 0)) - 1) (fun r72 u72 => vp_in (r32 + 1) 1613 ∧ (vp_in r32 1613 ∧ (vp_in (r32 + 1) 1613 ∧ (((ms_I (ms_sI u72 (ms_at E o 9) (Int32.toNatClampNeg (r32 + 1)) r72) (ms_at E o 9) (Int32.toNatClampNeg r32)) = (ms_I (ms_sI u72 (ms_at E o 9) (Int32.toNatClampNeg (r32 + 1)) r72) (ms_at E o 9) (Int32.toNatClampNeg (r32 + 1))) → wp_X11_report E (ms_sI u72 (ms_at E o 9) (Int32.toNatClampNeg (r32 + 1)) r72) o (-3) (ms_I (ms_sI u72 (ms_at E o 9) (Int32.toNatClampNeg (r32 + 1)) r72) o 12) (fun u100 => wp_X11_readStreet_103 E o a1 post u100 r32)) ∧ (¬ (ms_I (ms_sI u72 (ms_at E o 9) (Int32.toNatClampNeg (r32 + 1)) r72) (ms_at E o 9) (Int32.toNatClampNeg r32)) = (ms_I (ms_sI u72 (ms_at E o 9) (Int32.toNatClampNeg (r32 + 1)) r72) (ms_at E o 9) (Int32.toNatClampNeg (r32 + 1))) → wp_X11_readStreet_103 E o a1 post (ms_sI u72 (ms_at E o 9) (Int32.toNatClampNeg (r32 + 1)) r72) r32)))))))))))))
set_option maxHeartbeats 4000000 in
set_option maxRecDepth 100000 in
theorem c_X11_readStreet_18 {p : Program} {l : Launch} {e : Env} {s : State} {m : MethodId} {args : Array Value} {below : List Frame} {meth : Method} {c : Code} {G : va_G} {cy : Nat → ClassId} {A : Nat → Prop} {L : Nat → Nat} {E : ms_En} (C : ms_Cx p m c cX11_readStreet 3 s args (Cond.code ⟨"CensusWalkModel", "readStreet", "(I)V"⟩ prog_13_method_23_code 3 none) "CensusWalkModel" G cy A) (hr : meth.sig.returnType = none) (hlocks : meth.locks = false) (hE : ms_WT E) {o : Nat} {a1 : Int32} {post : ms_St → Prop}  (ho : ms_is E o 11)  (u : ms_St)   (h : wp_X11_readStreet_18 E o a1 post u ) : ms_At p l e ({ frames := 3, cells := 0, slots := 0, locals := 65 } : Room) s m args below meth c 3 G cy A L 0 0 (ms_QV below args s G cy L E A post 0 0) E u 18 [(0, .ref (L o))] [] := by
  unfold wp_X11_readStreet_18 at h
  refine a_aload_n C dX11_readStreet_18 rfl 0 rfl rfl ?_
  refine a_callVI C (c_X11_isGood l G cy L E hE u o ho _ h) ho rfl (by decide) kw_6_110 kw_6_112 kp_45 kw_1_12 kw_6_113 rfl rfl pd_X11_isGood ⟨(Nat.le_of_ble_eq_true rfl), (Nat.le_of_ble_eq_true rfl)⟩ dX11_readStreet_19 rfl (Nat.le_of_ble_eq_true rfl) ⟨(Nat.le_of_ble_eq_true rfl), (Nat.le_of_ble_eq_true rfl)⟩ rfl (fun r19 u19 h => ?_)
  refine a_if_ne (tgt := 26) C dX11_readStreet_22 (by decide) rfl (fun hc => ?_) (fun hc => ?_)
  · replace h := h.2 hc
    refine a_aload_n C dX11_readStreet_26 rfl 0 rfl rfl ?_
    refine g_11_9 C hE dX11_readStreet_27 ho kw_5_231 rfl ?_
    have k27 : ms_is E (ms_at E o 9) 13 := ms_wt hE ho rfl (by decide)
    have n27 : ms_N E (ms_at E o 9) = 1613 := ms_wl hE ho (by decide) (by decide) rfl
    refine a_iconst (v := 1) C dX11_readStreet_30 (by decide) rfl ?_
    obtain ⟨q31, h⟩ := h
    refine a_iald C dX11_readStreet_31 k27 n27 q31 rfl ?_
    refine a_callSI C (c_X11_street l G cy L E hE u19 (ms_I u19 (ms_at E o 9) (Int32.toNatClampNeg 1))  _ h) kw_6_152 kw_6_153 kw_1_12 kw_6_154 rfl rfl pd_X11_street ⟨(Nat.le_of_ble_eq_true rfl), (Nat.le_of_ble_eq_true rfl)⟩ dX11_readStreet_32 rfl (Nat.le_of_ble_eq_true rfl) ⟨(Nat.le_of_ble_eq_true rfl), (Nat.le_of_ble_eq_true rfl)⟩ rfl (fun r32 u32 h => ?_)
    refine a_istore_n (lv' := [(0, .ref (L o)), (2, .int r32)]) C dX11_readStreet_35 rfl (by decide) [1, 0] rfl rfl ?_
    refine a_aload_n C dX11_readStreet_36 rfl 0 rfl rfl ?_
    refine g_11_9 C hE dX11_readStreet_37 ho kw_5_231 rfl ?_
    refine a_iload_n C dX11_readStreet_40 rfl 1 rfl rfl ?_
    refine a_aload_n C dX11_readStreet_41 rfl 0 rfl rfl ?_
    refine a_iconst (v := 0) C dX11_readStreet_42 (by decide) rfl ?_
    refine a_aload_n C dX11_readStreet_43 rfl 0 rfl rfl ?_
    refine g_11_9 C hE dX11_readStreet_44 ho kw_5_231 rfl ?_
    refine a_iconst (v := 0) C dX11_readStreet_47 (by decide) rfl ?_
    obtain ⟨q48, h⟩ := h
    refine a_iald C dX11_readStreet_48 k27 n27 q48 rfl ?_
    refine a_iconst (v := 1) C dX11_readStreet_49 (by decide) rfl ?_
    refine a_isub C dX11_readStreet_50 rfl ?_
    refine a_callVI C (c_X11_number l G cy L E hE u32 o 0 ((ms_I u32 (ms_at E o 9) (Int32.toNatClampNeg 0)) - 1) ho _ h) ho rfl (by decide) kw_6_128 kw_6_130 kp_49 kw_1_12 kw_6_131 rfl rfl pd_X11_number ⟨(Nat.le_of_ble_eq_true rfl), (Nat.le_of_ble_eq_true rfl)⟩ dX11_readStreet_51 rfl (Nat.le_of_ble_eq_true rfl) ⟨(Nat.le_of_ble_eq_true rfl), (Nat.le_of_ble_eq_true rfl)⟩ rfl (fun r51 u51 h => ?_)
    obtain ⟨q54, h⟩ := h
    refine a_iast C dX11_readStreet_54 k27 n27 q54 rfl ?_
    refine a_aload_n C dX11_readStreet_55 rfl 0 rfl rfl ?_
    refine g_11_9 C hE dX11_readStreet_56 ho kw_5_231 rfl ?_
    refine a_iload_n C dX11_readStreet_59 rfl 1 rfl rfl ?_
    refine a_iconst (v := 1) C dX11_readStreet_60 (by decide) rfl ?_
    refine a_iadd C dX11_readStreet_61 rfl ?_
    refine a_aload_n C dX11_readStreet_62 rfl 0 rfl rfl ?_
    refine a_iconst (v := 0) C dX11_readStreet_63 (by decide) rfl ?_
    refine a_aload_n C dX11_readStreet_64 rfl 0 rfl rfl ?_
    refine g_11_9 C hE dX11_readStreet_65 ho kw_5_231 rfl ?_
    refine a_iconst (v := 0) C dX11_readStreet_68 (by decide) rfl ?_
    obtain ⟨q69, h⟩ := h
    refine a_iald C dX11_readStreet_69 k27 n27 q69 rfl ?_
    refine a_iconst (v := 1) C dX11_readStreet_70 (by decide) rfl ?_
    refine a_isub C dX11_readStreet_71 rfl ?_
    refine a_callVI C (c_X11_number l G cy L E hE (ms_sI u51 (ms_at E o 9) (Int32.toNatClampNeg r32) r51) o 0 ((ms_I (ms_sI u51 (ms_at E o 9) (Int32.toNatClampNeg r32) r51) (ms_at E o 9) (Int32.toNatClampNeg 0)) - 1) ho _ h) ho rfl (by decide) kw_6_128 kw_6_130 kp_49 kw_1_12 kw_6_131 rfl rfl pd_X11_number ⟨(Nat.le_of_ble_eq_true rfl), (Nat.le_of_ble_eq_true rfl)⟩ dX11_readStreet_72 rfl (Nat.le_of_ble_eq_true rfl) ⟨(Nat.le_of_ble_eq_true rfl), (Nat.le_of_ble_eq_true rfl)⟩ rfl (fun r72 u72 h => ?_)
    obtain ⟨q75, h⟩ := h
    refine a_iast C dX11_readStreet_75 k27 n27 q75 rfl ?_
    refine a_aload_n C dX11_readStreet_76 rfl 0 rfl rfl ?_
    refine g_11_9 C hE dX11_readStreet_77 ho kw_5_231 rfl ?_
    refine a_iload_n C dX11_readStreet_80 rfl 1 rfl rfl ?_
    obtain ⟨q81, h⟩ := h
    refine a_iald C dX11_readStreet_81 k27 n27 q81 rfl ?_
    refine a_aload_n C dX11_readStreet_82 rfl 0 rfl rfl ?_
    refine g_11_9 C hE dX11_readStreet_83 ho kw_5_231 rfl ?_
    refine a_iload_n C dX11_readStreet_86 rfl 1 rfl rfl ?_
    refine a_iconst (v := 1) C dX11_readStreet_87 (by decide) rfl ?_
    refine a_iadd C dX11_readStreet_88 rfl ?_
    obtain ⟨q89, h⟩ := h
    refine a_iald C dX11_readStreet_89 k27 n27 q89 rfl ?_
    refine a_icmp_ne (tgt := 103) C dX11_readStreet_90 (by decide) rfl (fun hc => ?_) (fun hc => ?_)
    · replace h := h.2 hc
      exact c_X11_readStreet_103 C hr hlocks hE ho  (ms_sI u72 (ms_at E o 9) (Int32.toNatClampNeg (r32 + 1)) r72) r32  h
    · replace h := h.1 hc
      refine a_aload_n C dX11_readStreet_93 rfl 0 rfl rfl ?_
      refine a_bipush (v := (-3)) C dX11_readStreet_94 (by decide) rfl ?_
      refine a_aload_n C dX11_readStreet_96 rfl 0 rfl rfl ?_
      refine g_11_12 C dX11_readStreet_97 ho kw_5_234 rfl ?_
      refine a_callVV C (c_X11_report l G cy L E hE (ms_sI u72 (ms_at E o 9) (Int32.toNatClampNeg (r32 + 1)) r72) o (-3) (ms_I (ms_sI u72 (ms_at E o 9) (Int32.toNatClampNeg (r32 + 1)) r72) o 12) ho _ h) ho rfl (by decide) kw_6_124 kw_6_126 kp_48 kw_1_12 kw_6_127 rfl rfl pd_X11_report ⟨(Nat.le_of_ble_eq_true rfl), (Nat.le_of_ble_eq_true rfl)⟩ dX11_readStreet_100 rfl (Nat.le_of_ble_eq_true rfl) ⟨(Nat.le_of_ble_eq_true rfl), (Nat.le_of_ble_eq_true rfl)⟩ rfl (fun u100 h => ?_)
      exact c_X11_readStreet_103 C hr hlocks hE ho  u100 r32  h
  · replace h := h.1 hc
    exact a_vret C dX11_readStreet_25 hr hlocks (Nat.le_of_ble_eq_true rfl) (Nat.le_of_ble_eq_true rfl) h
def wp_X11_readStreet (E : ms_En) (u : ms_St) (o : Nat) (a1 : Int32) (post : ms_St → Prop) : Prop := vp_in 1 1613 ∧ (((ms_I u (ms_at E o 9) (Int32.toNatClampNeg 1)) = 12 → wp_X11_report E u o (-4) a1 (fun u15 => wp_X11_readStreet_18 E o a1 post u15)) ∧ (¬ (ms_I u (ms_at E o 9) (Int32.toNatClampNeg 1)) = 12 → wp_X11_readStreet_18 E o a1 post u))
set_option maxHeartbeats 4000000 in
set_option maxRecDepth 100000 in
theorem c_X11_readStreet (l : Launch) (G : va_G) (cy : Nat → ClassId) (L : Nat → Nat) (E : ms_En) (hE : ms_WT E) (u : ms_St) (o : Nat) (a1 : Int32) (ho : ms_is E o 11) (post : ms_St → Prop) (h : wp_X11_readStreet E u o a1 post) : ms_MetV l ⟨"CensusWalkModel", "readStreet", "(I)V"⟩ (Cond.code ⟨"CensusWalkModel", "readStreet", "(I)V"⟩ prog_13_method_23_code 3 none :: lw_g) ({ frames := 3, cells := 0, slots := 0, locals := 65 } : Room) G cy L E [.ref (L o), .int a1] u post 0 0 := by
  refine ms_enterV (lv := [(0, .ref (L o)), (1, .int a1)]) (by decide) (Nat.le_of_ble_eq_true rfl) rfl ?_
  intro p e s m args below meth c A C hr hlocks
  unfold wp_X11_readStreet at h
  refine a_aload_n C dX11_readStreet_0 rfl 0 rfl rfl ?_
  refine g_11_9 C hE dX11_readStreet_1 ho kw_5_231 rfl ?_
  have k1 : ms_is E (ms_at E o 9) 13 := ms_wt hE ho rfl (by decide)
  have n1 : ms_N E (ms_at E o 9) = 1613 := ms_wl hE ho (by decide) (by decide) rfl
  refine a_iconst (v := 1) C dX11_readStreet_4 (by decide) rfl ?_
  obtain ⟨q5, h⟩ := h
  refine a_iald C dX11_readStreet_5 k1 n1 q5 rfl ?_
  refine a_bipush (v := 12) C dX11_readStreet_6 (by decide) rfl ?_
  refine a_icmp_ne (tgt := 18) C dX11_readStreet_8 (by decide) rfl (fun hc => ?_) (fun hc => ?_)
  · replace h := h.2 hc
    refine a_sub (lv' := [(0, .ref (L o))]) [0] rfl ?_
    exact c_X11_readStreet_18 C hr hlocks hE ho  u  h
  · replace h := h.1 hc
    refine a_aload_n C dX11_readStreet_11 rfl 0 rfl rfl ?_
    refine a_bipush (v := (-4)) C dX11_readStreet_12 (by decide) rfl ?_
    refine a_iload_n C dX11_readStreet_14 rfl 1 rfl rfl ?_
    refine a_callVV C (c_X11_report l G cy L E hE u o (-4) a1 ho _ h) ho rfl (by decide) kw_6_124 kw_6_126 kp_48 kw_1_12 kw_6_127 rfl rfl pd_X11_report ⟨(Nat.le_of_ble_eq_true rfl), (Nat.le_of_ble_eq_true rfl)⟩ dX11_readStreet_15 rfl (Nat.le_of_ble_eq_true rfl) ⟨(Nat.le_of_ble_eq_true rfl), (Nat.le_of_ble_eq_true rfl)⟩ rfl (fun u15 h => ?_)
    refine a_sub (lv' := [(0, .ref (L o))]) [0] rfl ?_
    exact c_X11_readStreet_18 C hr hlocks hE ho  u15  h

/-! CensusWalkModel.readHouse(I)V -/
theorem pd_X11_readHouse : (⟨"CensusWalkModel", "readHouse", "(I)V"⟩ : MethodName).cls = "CensusWalkModel" ∧ (⟨"CensusWalkModel", "readHouse", "(I)V"⟩ : MethodName).cls ≠ "java/lang/invoke/MethodHandle" ∧ (⟨"CensusWalkModel", "readHouse", "(I)V"⟩ : MethodName).cls ≠ "java/lang/invoke/VarHandle" ∧ (parseMethodDescriptor (⟨"CensusWalkModel", "readHouse", "(I)V"⟩ : MethodName).desc).map (fun d => d.parameters.length) = some 1 := by decide +kernel
def wp_X11_readHouse_181 (E : ms_En) (o : Nat) (a1 : Int32) (post : ms_St → Prop)  (u : ms_St) (z0 : Int32) (z1 : Int32) (z2 : Nat) : Prop := vp_in z1 1613 ∧ (vp_in 2 1613 ∧ (vp_in 2 1613 ∧ (∀ w191 : ms_St, w191 = (ms_sI (ms_sI u z2 (Int32.toNatClampNeg z1) z0) (ms_at E o 9) (Int32.toNatClampNeg 2) ((ms_I (ms_sI u z2 (Int32.toNatClampNeg z1) z0) (ms_at E o 9) (Int32.toNatClampNeg 2)) + 1)) → (post w191))))
set_option maxHeartbeats 4000000 in
set_option maxRecDepth 100000 in
theorem c_X11_readHouse_181 {p : Program} {l : Launch} {e : Env} {s : State} {m : MethodId} {args : Array Value} {below : List Frame} {meth : Method} {c : Code} {G : va_G} {cy : Nat → ClassId} {A : Nat → Prop} {L : Nat → Nat} {E : ms_En} (C : ms_Cx p m c cX11_readHouse 4 s args (Cond.code ⟨"CensusWalkModel", "readHouse", "(I)V"⟩ prog_13_method_24_code 4 none) "CensusWalkModel" G cy A) (hr : meth.sig.returnType = none) (hlocks : meth.locks = false) (hE : ms_WT E) {o : Nat} {a1 : Int32} {post : ms_St → Prop}  (ho : ms_is E o 11)  (u : ms_St) (z0 : Int32) (z1 : Int32) (z2 : Nat) (k_z2 : ms_is E z2 13) (n_z2 : ms_N E z2 = 1613) (h : wp_X11_readHouse_181 E o a1 post u z0 z1 z2) : ms_At p l e ({ frames := 5, cells := 0, slots := 0, locals := 107 } : Room) s m args below meth c 4 G cy A L 0 0 (ms_QV below args s G cy L E A post 0 0) E u 181 [(0, .ref (L o))] [.int z0, .int z1, .ref (L z2)] := by
  unfold wp_X11_readHouse_181 at h
  obtain ⟨q181, h⟩ := h
  refine a_iast C dX11_readHouse_181 k_z2 n_z2 q181 rfl ?_
  refine a_aload_n C dX11_readHouse_182 rfl 0 rfl rfl ?_
  refine g_11_9 C hE dX11_readHouse_183 ho kw_5_231 rfl ?_
  have k183 : ms_is E (ms_at E o 9) 13 := ms_wt hE ho rfl (by decide)
  have n183 : ms_N E (ms_at E o 9) = 1613 := ms_wl hE ho (by decide) (by decide) rfl
  refine a_iconst (v := 2) C dX11_readHouse_186 (by decide) rfl ?_
  refine a_dup2 C dX11_readHouse_187 rfl rfl rfl ?_
  obtain ⟨q188, h⟩ := h
  refine a_iald C dX11_readHouse_188 k183 n183 q188 rfl ?_
  refine a_iconst (v := 1) C dX11_readHouse_189 (by decide) rfl ?_
  refine a_iadd C dX11_readHouse_190 rfl ?_
  obtain ⟨q191, h⟩ := h
  refine a_iast C dX11_readHouse_191 k183 n183 q191 rfl ?_
  refine a_nmU (fun w191 e191 => ?_)
  replace h := h w191 e191
  exact a_vret C dX11_readHouse_192 hr hlocks (Nat.le_of_ble_eq_true rfl) (Nat.le_of_ble_eq_true rfl) h
def wp_X11_readHouse_18 (E : ms_En) (o : Nat) (a1 : Int32) (post : ms_St → Prop)  (u : ms_St)  : Prop := wp_X11_isGood E u o (fun r19 u19 => (r19 = 0 → post u19) ∧ (¬ r19 = 0 → vp_in 2 1613 ∧ (wp_X11_house E u19 (ms_I u19 (ms_at E o 9) (Int32.toNatClampNeg 2)) (fun r32 u32 => vp_in 1 1613 ∧ (wp_X11_number E u32 o 0 ((ms_I u32 (ms_at E o 9) (Int32.toNatClampNeg 1)) - 1) (fun r46 u46 => wp_X11_isGood E u46 o (fun r51 u51 => (r51 = 0 → post u51) ∧ (¬ r51 = 0 → vp_in r32 1613 ∧ (wp_X11_street E (ms_sI u51 (ms_at E o 9) (Int32.toNatClampNeg r32) r46) r46 (fun r79 u79 => vp_in (r79 + 2) 1613 ∧ (wp_X11_number E u79 o 0 (ms_I u79 (ms_at E o 9) (Int32.toNatClampNeg (r79 + 2))) (fun r85 u85 => vp_in (r32 + 1) 1613 ∧ (wp_X11_number E (ms_sI u85 (ms_at E o 9) (Int32.toNatClampNeg (r32 + 1)) r85) o 0 1 (fun r99 u99 => vp_in (r32 + 2) 1613 ∧ (wp_X11_number E (ms_sI u99 (ms_at E o 9) (Int32.toNatClampNeg (r32 + 2)) r99) o 0 20 (fun r114 u114 => vp_in (r32 + 3) 1613 ∧ (wp_X11_number E (ms_sI u114 (ms_at E o 9) (Int32.toNatClampNeg (r32 + 3)) r114) o 0 1439 (fun r130 u130 => vp_in (r32 + 4) 1613 ∧ (vp_in (r32 + 4) 1613 ∧ (wp_X11_number E (ms_sI u130 (ms_at E o 9) (Int32.toNatClampNeg (r32 + 4)) r130) o ((ms_I (ms_sI u130 (ms_at E o 9) (Int32.toNatClampNeg (r32 + 4)) r130) (ms_at E o 9) (Int32.toNatClampNeg (r32 + 4))) + 1) 1440 (fun r155 u155 => vp_in (r32 + 5) 1613 ∧ (wp_X11_takeWord E (ms_sI u155 (ms_at E o 9) (Int32.toNatClampNeg (r32 + 5)) r155) o 26 (fun r170 u170 => (r170 = 0 → wp_X11_readHouse_181 E o a1 post u170 0 (r32 + 6) (ms_at E o 9)) ∧ (¬ r170 = 0 → wp_X11_readHouse_181 E o a1 post u170 1 (r32 + 6) (ms_at E o 9)))))))))))))))))))))))))
set_option maxHeartbeats 4000000 in
set_option maxRecDepth 100000 in
theorem c_X11_readHouse_18 {p : Program} {l : Launch} {e : Env} {s : State} {m : MethodId} {args : Array Value} {below : List Frame} {meth : Method} {c : Code} {G : va_G} {cy : Nat → ClassId} {A : Nat → Prop} {L : Nat → Nat} {E : ms_En} (C : ms_Cx p m c cX11_readHouse 4 s args (Cond.code ⟨"CensusWalkModel", "readHouse", "(I)V"⟩ prog_13_method_24_code 4 none) "CensusWalkModel" G cy A) (hr : meth.sig.returnType = none) (hlocks : meth.locks = false) (hE : ms_WT E) {o : Nat} {a1 : Int32} {post : ms_St → Prop}  (ho : ms_is E o 11)  (u : ms_St)   (h : wp_X11_readHouse_18 E o a1 post u ) : ms_At p l e ({ frames := 5, cells := 0, slots := 0, locals := 107 } : Room) s m args below meth c 4 G cy A L 0 0 (ms_QV below args s G cy L E A post 0 0) E u 18 [(0, .ref (L o))] [] := by
  unfold wp_X11_readHouse_18 at h
  refine a_aload_n C dX11_readHouse_18 rfl 0 rfl rfl ?_
  refine a_callVI C (c_X11_isGood l G cy L E hE u o ho _ h) ho rfl (by decide) kw_6_110 kw_6_112 kp_45 kw_1_12 kw_6_113 rfl rfl pd_X11_isGood ⟨(Nat.le_of_ble_eq_true rfl), (Nat.le_of_ble_eq_true rfl)⟩ dX11_readHouse_19 rfl (Nat.le_of_ble_eq_true rfl) ⟨(Nat.le_of_ble_eq_true rfl), (Nat.le_of_ble_eq_true rfl)⟩ rfl (fun r19 u19 h => ?_)
  refine a_if_ne (tgt := 26) C dX11_readHouse_22 (by decide) rfl (fun hc => ?_) (fun hc => ?_)
  · replace h := h.2 hc
    refine a_aload_n C dX11_readHouse_26 rfl 0 rfl rfl ?_
    refine g_11_9 C hE dX11_readHouse_27 ho kw_5_231 rfl ?_
    have k27 : ms_is E (ms_at E o 9) 13 := ms_wt hE ho rfl (by decide)
    have n27 : ms_N E (ms_at E o 9) = 1613 := ms_wl hE ho (by decide) (by decide) rfl
    refine a_iconst (v := 2) C dX11_readHouse_30 (by decide) rfl ?_
    obtain ⟨q31, h⟩ := h
    refine a_iald C dX11_readHouse_31 k27 n27 q31 rfl ?_
    refine a_callSI C (c_X11_house l G cy L E hE u19 (ms_I u19 (ms_at E o 9) (Int32.toNatClampNeg 2))  _ h) kw_6_160 kw_6_161 kw_1_12 kw_6_162 rfl rfl pd_X11_house ⟨(Nat.le_of_ble_eq_true rfl), (Nat.le_of_ble_eq_true rfl)⟩ dX11_readHouse_32 rfl (Nat.le_of_ble_eq_true rfl) ⟨(Nat.le_of_ble_eq_true rfl), (Nat.le_of_ble_eq_true rfl)⟩ rfl (fun r32 u32 h => ?_)
    refine a_istore_n (lv' := [(0, .ref (L o)), (2, .int r32)]) C dX11_readHouse_35 rfl (by decide) [1, 0] rfl rfl ?_
    refine a_aload_n C dX11_readHouse_36 rfl 0 rfl rfl ?_
    refine a_iconst (v := 0) C dX11_readHouse_37 (by decide) rfl ?_
    refine a_aload_n C dX11_readHouse_38 rfl 0 rfl rfl ?_
    refine g_11_9 C hE dX11_readHouse_39 ho kw_5_231 rfl ?_
    refine a_iconst (v := 1) C dX11_readHouse_42 (by decide) rfl ?_
    obtain ⟨q43, h⟩ := h
    refine a_iald C dX11_readHouse_43 k27 n27 q43 rfl ?_
    refine a_iconst (v := 1) C dX11_readHouse_44 (by decide) rfl ?_
    refine a_isub C dX11_readHouse_45 rfl ?_
    refine a_callVI C (c_X11_number l G cy L E hE u32 o 0 ((ms_I u32 (ms_at E o 9) (Int32.toNatClampNeg 1)) - 1) ho _ h) ho rfl (by decide) kw_6_128 kw_6_130 kp_49 kw_1_12 kw_6_131 rfl rfl pd_X11_number ⟨(Nat.le_of_ble_eq_true rfl), (Nat.le_of_ble_eq_true rfl)⟩ dX11_readHouse_46 rfl (Nat.le_of_ble_eq_true rfl) ⟨(Nat.le_of_ble_eq_true rfl), (Nat.le_of_ble_eq_true rfl)⟩ rfl (fun r46 u46 h => ?_)
    refine a_istore_n (lv' := [(0, .ref (L o)), (2, .int r32), (3, .int r46)]) C dX11_readHouse_49 rfl (by decide) [1, 2, 0] rfl rfl ?_
    refine a_aload_n C dX11_readHouse_50 rfl 0 rfl rfl ?_
    refine a_callVI C (c_X11_isGood l G cy L E hE u46 o ho _ h) ho rfl (by decide) kw_6_110 kw_6_112 kp_45 kw_1_12 kw_6_113 rfl rfl pd_X11_isGood ⟨(Nat.le_of_ble_eq_true rfl), (Nat.le_of_ble_eq_true rfl)⟩ dX11_readHouse_51 rfl (Nat.le_of_ble_eq_true rfl) ⟨(Nat.le_of_ble_eq_true rfl), (Nat.le_of_ble_eq_true rfl)⟩ rfl (fun r51 u51 h => ?_)
    refine a_if_ne (tgt := 58) C dX11_readHouse_54 (by decide) rfl (fun hc => ?_) (fun hc => ?_)
    · replace h := h.2 hc
      refine a_aload_n C dX11_readHouse_58 rfl 0 rfl rfl ?_
      refine g_11_9 C hE dX11_readHouse_59 ho kw_5_231 rfl ?_
      refine a_iload_n C dX11_readHouse_62 rfl 1 rfl rfl ?_
      refine a_iload_n C dX11_readHouse_63 rfl 2 rfl rfl ?_
      obtain ⟨q64, h⟩ := h
      refine a_iast C dX11_readHouse_64 k27 n27 q64 rfl ?_
      refine a_aload_n C dX11_readHouse_65 rfl 0 rfl rfl ?_
      refine g_11_9 C hE dX11_readHouse_66 ho kw_5_231 rfl ?_
      refine a_iload_n C dX11_readHouse_69 rfl 1 rfl rfl ?_
      refine a_iconst (v := 1) C dX11_readHouse_70 (by decide) rfl ?_
      refine a_iadd C dX11_readHouse_71 rfl ?_
      refine a_aload_n C dX11_readHouse_72 rfl 0 rfl rfl ?_
      refine a_iconst (v := 0) C dX11_readHouse_73 (by decide) rfl ?_
      refine a_aload_n C dX11_readHouse_74 rfl 0 rfl rfl ?_
      refine g_11_9 C hE dX11_readHouse_75 ho kw_5_231 rfl ?_
      refine a_iload_n C dX11_readHouse_78 rfl 2 rfl rfl ?_
      refine a_callSI C (c_X11_street l G cy L E hE (ms_sI u51 (ms_at E o 9) (Int32.toNatClampNeg r32) r46) r46  _ h) kw_6_152 kw_6_153 kw_1_12 kw_6_154 rfl rfl pd_X11_street ⟨(Nat.le_of_ble_eq_true rfl), (Nat.le_of_ble_eq_true rfl)⟩ dX11_readHouse_79 rfl (Nat.le_of_ble_eq_true rfl) ⟨(Nat.le_of_ble_eq_true rfl), (Nat.le_of_ble_eq_true rfl)⟩ rfl (fun r79 u79 h => ?_)
      refine a_iconst (v := 2) C dX11_readHouse_82 (by decide) rfl ?_
      refine a_iadd C dX11_readHouse_83 rfl ?_
      obtain ⟨q84, h⟩ := h
      refine a_iald C dX11_readHouse_84 k27 n27 q84 rfl ?_
      refine a_callVI C (c_X11_number l G cy L E hE u79 o 0 (ms_I u79 (ms_at E o 9) (Int32.toNatClampNeg (r79 + 2))) ho _ h) ho rfl (by decide) kw_6_128 kw_6_130 kp_49 kw_1_12 kw_6_131 rfl rfl pd_X11_number ⟨(Nat.le_of_ble_eq_true rfl), (Nat.le_of_ble_eq_true rfl)⟩ dX11_readHouse_85 rfl (Nat.le_of_ble_eq_true rfl) ⟨(Nat.le_of_ble_eq_true rfl), (Nat.le_of_ble_eq_true rfl)⟩ rfl (fun r85 u85 h => ?_)
      obtain ⟨q88, h⟩ := h
      refine a_iast C dX11_readHouse_88 k27 n27 q88 rfl ?_
      refine a_aload_n C dX11_readHouse_89 rfl 0 rfl rfl ?_
      refine g_11_9 C hE dX11_readHouse_90 ho kw_5_231 rfl ?_
      refine a_iload_n C dX11_readHouse_93 rfl 1 rfl rfl ?_
      refine a_iconst (v := 2) C dX11_readHouse_94 (by decide) rfl ?_
      refine a_iadd C dX11_readHouse_95 rfl ?_
      refine a_aload_n C dX11_readHouse_96 rfl 0 rfl rfl ?_
      refine a_iconst (v := 0) C dX11_readHouse_97 (by decide) rfl ?_
      refine a_iconst (v := 1) C dX11_readHouse_98 (by decide) rfl ?_
      refine a_callVI C (c_X11_number l G cy L E hE (ms_sI u85 (ms_at E o 9) (Int32.toNatClampNeg (r32 + 1)) r85) o 0 1 ho _ h) ho rfl (by decide) kw_6_128 kw_6_130 kp_49 kw_1_12 kw_6_131 rfl rfl pd_X11_number ⟨(Nat.le_of_ble_eq_true rfl), (Nat.le_of_ble_eq_true rfl)⟩ dX11_readHouse_99 rfl (Nat.le_of_ble_eq_true rfl) ⟨(Nat.le_of_ble_eq_true rfl), (Nat.le_of_ble_eq_true rfl)⟩ rfl (fun r99 u99 h => ?_)
      obtain ⟨q102, h⟩ := h
      refine a_iast C dX11_readHouse_102 k27 n27 q102 rfl ?_
      refine a_aload_n C dX11_readHouse_103 rfl 0 rfl rfl ?_
      refine g_11_9 C hE dX11_readHouse_104 ho kw_5_231 rfl ?_
      refine a_iload_n C dX11_readHouse_107 rfl 1 rfl rfl ?_
      refine a_iconst (v := 3) C dX11_readHouse_108 (by decide) rfl ?_
      refine a_iadd C dX11_readHouse_109 rfl ?_
      refine a_aload_n C dX11_readHouse_110 rfl 0 rfl rfl ?_
      refine a_iconst (v := 0) C dX11_readHouse_111 (by decide) rfl ?_
      refine a_bipush (v := 20) C dX11_readHouse_112 (by decide) rfl ?_
      refine a_callVI C (c_X11_number l G cy L E hE (ms_sI u99 (ms_at E o 9) (Int32.toNatClampNeg (r32 + 2)) r99) o 0 20 ho _ h) ho rfl (by decide) kw_6_128 kw_6_130 kp_49 kw_1_12 kw_6_131 rfl rfl pd_X11_number ⟨(Nat.le_of_ble_eq_true rfl), (Nat.le_of_ble_eq_true rfl)⟩ dX11_readHouse_114 rfl (Nat.le_of_ble_eq_true rfl) ⟨(Nat.le_of_ble_eq_true rfl), (Nat.le_of_ble_eq_true rfl)⟩ rfl (fun r114 u114 h => ?_)
      obtain ⟨q117, h⟩ := h
      refine a_iast C dX11_readHouse_117 k27 n27 q117 rfl ?_
      refine a_aload_n C dX11_readHouse_118 rfl 0 rfl rfl ?_
      refine g_11_9 C hE dX11_readHouse_119 ho kw_5_231 rfl ?_
      refine a_iload_n C dX11_readHouse_122 rfl 1 rfl rfl ?_
      refine a_iconst (v := 4) C dX11_readHouse_123 (by decide) rfl ?_
      refine a_iadd C dX11_readHouse_124 rfl ?_
      refine a_aload_n C dX11_readHouse_125 rfl 0 rfl rfl ?_
      refine a_iconst (v := 0) C dX11_readHouse_126 (by decide) rfl ?_
      refine a_sipush (v := 1439) C dX11_readHouse_127 (by decide) rfl ?_
      refine a_callVI C (c_X11_number l G cy L E hE (ms_sI u114 (ms_at E o 9) (Int32.toNatClampNeg (r32 + 3)) r114) o 0 1439 ho _ h) ho rfl (by decide) kw_6_128 kw_6_130 kp_49 kw_1_12 kw_6_131 rfl rfl pd_X11_number ⟨(Nat.le_of_ble_eq_true rfl), (Nat.le_of_ble_eq_true rfl)⟩ dX11_readHouse_130 rfl (Nat.le_of_ble_eq_true rfl) ⟨(Nat.le_of_ble_eq_true rfl), (Nat.le_of_ble_eq_true rfl)⟩ rfl (fun r130 u130 h => ?_)
      obtain ⟨q133, h⟩ := h
      refine a_iast C dX11_readHouse_133 k27 n27 q133 rfl ?_
      refine a_aload_n C dX11_readHouse_134 rfl 0 rfl rfl ?_
      refine g_11_9 C hE dX11_readHouse_135 ho kw_5_231 rfl ?_
      refine a_iload_n C dX11_readHouse_138 rfl 1 rfl rfl ?_
      refine a_iconst (v := 5) C dX11_readHouse_139 (by decide) rfl ?_
      refine a_iadd C dX11_readHouse_140 rfl ?_
      refine a_aload_n C dX11_readHouse_141 rfl 0 rfl rfl ?_
      refine a_aload_n C dX11_readHouse_142 rfl 0 rfl rfl ?_
      refine g_11_9 C hE dX11_readHouse_143 ho kw_5_231 rfl ?_
      refine a_iload_n C dX11_readHouse_146 rfl 1 rfl rfl ?_
      refine a_iconst (v := 4) C dX11_readHouse_147 (by decide) rfl ?_
      refine a_iadd C dX11_readHouse_148 rfl ?_
      obtain ⟨q149, h⟩ := h
      refine a_iald C dX11_readHouse_149 k27 n27 q149 rfl ?_
      refine a_iconst (v := 1) C dX11_readHouse_150 (by decide) rfl ?_
      refine a_iadd C dX11_readHouse_151 rfl ?_
      refine a_sipush (v := 1440) C dX11_readHouse_152 (by decide) rfl ?_
      refine a_callVI C (c_X11_number l G cy L E hE (ms_sI u130 (ms_at E o 9) (Int32.toNatClampNeg (r32 + 4)) r130) o ((ms_I (ms_sI u130 (ms_at E o 9) (Int32.toNatClampNeg (r32 + 4)) r130) (ms_at E o 9) (Int32.toNatClampNeg (r32 + 4))) + 1) 1440 ho _ h) ho rfl (by decide) kw_6_128 kw_6_130 kp_49 kw_1_12 kw_6_131 rfl rfl pd_X11_number ⟨(Nat.le_of_ble_eq_true rfl), (Nat.le_of_ble_eq_true rfl)⟩ dX11_readHouse_155 rfl (Nat.le_of_ble_eq_true rfl) ⟨(Nat.le_of_ble_eq_true rfl), (Nat.le_of_ble_eq_true rfl)⟩ rfl (fun r155 u155 h => ?_)
      obtain ⟨q158, h⟩ := h
      refine a_iast C dX11_readHouse_158 k27 n27 q158 rfl ?_
      refine a_aload_n C dX11_readHouse_159 rfl 0 rfl rfl ?_
      refine g_11_9 C hE dX11_readHouse_160 ho kw_5_231 rfl ?_
      refine a_iload_n C dX11_readHouse_163 rfl 1 rfl rfl ?_
      refine a_bipush (v := 6) C dX11_readHouse_164 (by decide) rfl ?_
      refine a_iadd C dX11_readHouse_166 rfl ?_
      refine a_aload_n C dX11_readHouse_167 rfl 0 rfl rfl ?_
      refine a_ldcS (j := 26) C dX11_readHouse_168 rfl rfl rfl rfl ?_
      refine a_callVI C (c_X11_takeWord l G cy L E hE (ms_sI u155 (ms_at E o 9) (Int32.toNatClampNeg (r32 + 5)) r155) o 26 ho (by decide) _ h) ho rfl (by decide) kw_6_106 kw_6_108 kp_44 kw_1_12 kw_6_109 rfl rfl pd_X11_takeWord ⟨(Nat.le_of_ble_eq_true rfl), (Nat.le_of_ble_eq_true rfl)⟩ dX11_readHouse_170 rfl (Nat.le_of_ble_eq_true rfl) ⟨(Nat.le_of_ble_eq_true rfl), (Nat.le_of_ble_eq_true rfl)⟩ rfl (fun r170 u170 h => ?_)
      refine a_if_eq (tgt := 180) C dX11_readHouse_173 (by decide) rfl (fun hc => ?_) (fun hc => ?_)
      · replace h := h.1 hc
        refine a_iconst (v := 0) C dX11_readHouse_180 (by decide) rfl ?_
        refine a_sub (lv' := [(0, .ref (L o))]) [0] rfl ?_
        exact c_X11_readHouse_181 C hr hlocks hE ho  u170 0 (r32 + 6) (ms_at E o 9) k27 n27 h
      · replace h := h.2 hc
        refine a_iconst (v := 1) C dX11_readHouse_176 (by decide) rfl ?_
        refine a_goto (tgt := 181) C dX11_readHouse_177 (by decide) ?_
        refine a_sub (lv' := [(0, .ref (L o))]) [0] rfl ?_
        exact c_X11_readHouse_181 C hr hlocks hE ho  u170 1 (r32 + 6) (ms_at E o 9) k27 n27 h
    · replace h := h.1 hc
      exact a_vret C dX11_readHouse_57 hr hlocks (Nat.le_of_ble_eq_true rfl) (Nat.le_of_ble_eq_true rfl) h
  · replace h := h.1 hc
    exact a_vret C dX11_readHouse_25 hr hlocks (Nat.le_of_ble_eq_true rfl) (Nat.le_of_ble_eq_true rfl) h
def wp_X11_readHouse (E : ms_En) (u : ms_St) (o : Nat) (a1 : Int32) (post : ms_St → Prop) : Prop := vp_in 2 1613 ∧ (((ms_I u (ms_at E o 9) (Int32.toNatClampNeg 2)) = 16 → wp_X11_report E u o (-4) a1 (fun u15 => wp_X11_readHouse_18 E o a1 post u15)) ∧ (¬ (ms_I u (ms_at E o 9) (Int32.toNatClampNeg 2)) = 16 → wp_X11_readHouse_18 E o a1 post u))
set_option maxHeartbeats 4000000 in
set_option maxRecDepth 100000 in
theorem c_X11_readHouse (l : Launch) (G : va_G) (cy : Nat → ClassId) (L : Nat → Nat) (E : ms_En) (hE : ms_WT E) (u : ms_St) (o : Nat) (a1 : Int32) (ho : ms_is E o 11) (post : ms_St → Prop) (h : wp_X11_readHouse E u o a1 post) : ms_MetV l ⟨"CensusWalkModel", "readHouse", "(I)V"⟩ (Cond.code ⟨"CensusWalkModel", "readHouse", "(I)V"⟩ prog_13_method_24_code 4 none :: lw_g) ({ frames := 5, cells := 0, slots := 0, locals := 107 } : Room) G cy L E [.ref (L o), .int a1] u post 0 0 := by
  refine ms_enterV (lv := [(0, .ref (L o)), (1, .int a1)]) (by decide) (Nat.le_of_ble_eq_true rfl) rfl ?_
  intro p e s m args below meth c A C hr hlocks
  unfold wp_X11_readHouse at h
  refine a_aload_n C dX11_readHouse_0 rfl 0 rfl rfl ?_
  refine g_11_9 C hE dX11_readHouse_1 ho kw_5_231 rfl ?_
  have k1 : ms_is E (ms_at E o 9) 13 := ms_wt hE ho rfl (by decide)
  have n1 : ms_N E (ms_at E o 9) = 1613 := ms_wl hE ho (by decide) (by decide) rfl
  refine a_iconst (v := 2) C dX11_readHouse_4 (by decide) rfl ?_
  obtain ⟨q5, h⟩ := h
  refine a_iald C dX11_readHouse_5 k1 n1 q5 rfl ?_
  refine a_bipush (v := 16) C dX11_readHouse_6 (by decide) rfl ?_
  refine a_icmp_ne (tgt := 18) C dX11_readHouse_8 (by decide) rfl (fun hc => ?_) (fun hc => ?_)
  · replace h := h.2 hc
    refine a_sub (lv' := [(0, .ref (L o))]) [0] rfl ?_
    exact c_X11_readHouse_18 C hr hlocks hE ho  u  h
  · replace h := h.1 hc
    refine a_aload_n C dX11_readHouse_11 rfl 0 rfl rfl ?_
    refine a_bipush (v := (-4)) C dX11_readHouse_12 (by decide) rfl ?_
    refine a_iload_n C dX11_readHouse_14 rfl 1 rfl rfl ?_
    refine a_callVV C (c_X11_report l G cy L E hE u o (-4) a1 ho _ h) ho rfl (by decide) kw_6_124 kw_6_126 kp_48 kw_1_12 kw_6_127 rfl rfl pd_X11_report ⟨(Nat.le_of_ble_eq_true rfl), (Nat.le_of_ble_eq_true rfl)⟩ dX11_readHouse_15 rfl (Nat.le_of_ble_eq_true rfl) ⟨(Nat.le_of_ble_eq_true rfl), (Nat.le_of_ble_eq_true rfl)⟩ rfl (fun u15 h => ?_)
    refine a_sub (lv' := [(0, .ref (L o))]) [0] rfl ?_
    exact c_X11_readHouse_18 C hr hlocks hE ho  u15  h

/-! CensusWalkModel.readWalker(I)V -/
theorem pd_X11_readWalker : (⟨"CensusWalkModel", "readWalker", "(I)V"⟩ : MethodName).cls = "CensusWalkModel" ∧ (⟨"CensusWalkModel", "readWalker", "(I)V"⟩ : MethodName).cls ≠ "java/lang/invoke/MethodHandle" ∧ (⟨"CensusWalkModel", "readWalker", "(I)V"⟩ : MethodName).cls ≠ "java/lang/invoke/VarHandle" ∧ (parseMethodDescriptor (⟨"CensusWalkModel", "readWalker", "(I)V"⟩ : MethodName).desc).map (fun d => d.parameters.length) = some 1 := by decide +kernel
def wp_X11_readWalker_17 (E : ms_En) (o : Nat) (a1 : Int32) (post : ms_St → Prop)  (u : ms_St)  : Prop := wp_X11_isGood E u o (fun r18 u18 => (r18 = 0 → post u18) ∧ (¬ r18 = 0 → vp_in 3 1613 ∧ (wp_X11_walker E u18 (ms_I u18 (ms_at E o 9) (Int32.toNatClampNeg 3)) (fun r31 u31 => vp_in 0 1613 ∧ (wp_X11_number E u31 o 0 ((ms_I u31 (ms_at E o 9) (Int32.toNatClampNeg 0)) - 1) (fun r50 u50 => vp_in r31 1613 ∧ (wp_X11_number E (ms_sI u50 (ms_at E o 9) (Int32.toNatClampNeg r31) r50) o 0 1440 (fun r66 u66 => vp_in (r31 + 1) 1613 ∧ (vp_in 3 1613 ∧ (vp_in 3 1613 ∧ (∀ w79 : ms_St, w79 = (ms_sI (ms_sI u66 (ms_at E o 9) (Int32.toNatClampNeg (r31 + 1)) r66) (ms_at E o 9) (Int32.toNatClampNeg 3) ((ms_I (ms_sI u66 (ms_at E o 9) (Int32.toNatClampNeg (r31 + 1)) r66) (ms_at E o 9) (Int32.toNatClampNeg 3)) + 1)) → (post w79))))))))))))
set_option maxHeartbeats 4000000 in
set_option maxRecDepth 100000 in
theorem c_X11_readWalker_17 {p : Program} {l : Launch} {e : Env} {s : State} {m : MethodId} {args : Array Value} {below : List Frame} {meth : Method} {c : Code} {G : va_G} {cy : Nat → ClassId} {A : Nat → Prop} {L : Nat → Nat} {E : ms_En} (C : ms_Cx p m c cX11_readWalker 3 s args (Cond.code ⟨"CensusWalkModel", "readWalker", "(I)V"⟩ prog_13_method_25_code 3 none) "CensusWalkModel" G cy A) (hr : meth.sig.returnType = none) (hlocks : meth.locks = false) (hE : ms_WT E) {o : Nat} {a1 : Int32} {post : ms_St → Prop}  (ho : ms_is E o 11)  (u : ms_St)   (h : wp_X11_readWalker_17 E o a1 post u ) : ms_At p l e ({ frames := 3, cells := 0, slots := 0, locals := 65 } : Room) s m args below meth c 3 G cy A L 0 0 (ms_QV below args s G cy L E A post 0 0) E u 17 [(0, .ref (L o))] [] := by
  unfold wp_X11_readWalker_17 at h
  refine a_aload_n C dX11_readWalker_17 rfl 0 rfl rfl ?_
  refine a_callVI C (c_X11_isGood l G cy L E hE u o ho _ h) ho rfl (by decide) kw_6_110 kw_6_112 kp_45 kw_1_12 kw_6_113 rfl rfl pd_X11_isGood ⟨(Nat.le_of_ble_eq_true rfl), (Nat.le_of_ble_eq_true rfl)⟩ dX11_readWalker_18 rfl (Nat.le_of_ble_eq_true rfl) ⟨(Nat.le_of_ble_eq_true rfl), (Nat.le_of_ble_eq_true rfl)⟩ rfl (fun r18 u18 h => ?_)
  refine a_if_ne (tgt := 25) C dX11_readWalker_21 (by decide) rfl (fun hc => ?_) (fun hc => ?_)
  · replace h := h.2 hc
    refine a_aload_n C dX11_readWalker_25 rfl 0 rfl rfl ?_
    refine g_11_9 C hE dX11_readWalker_26 ho kw_5_231 rfl ?_
    have k26 : ms_is E (ms_at E o 9) 13 := ms_wt hE ho rfl (by decide)
    have n26 : ms_N E (ms_at E o 9) = 1613 := ms_wl hE ho (by decide) (by decide) rfl
    refine a_iconst (v := 3) C dX11_readWalker_29 (by decide) rfl ?_
    obtain ⟨q30, h⟩ := h
    refine a_iald C dX11_readWalker_30 k26 n26 q30 rfl ?_
    refine a_callSI C (c_X11_walker l G cy L E hE u18 (ms_I u18 (ms_at E o 9) (Int32.toNatClampNeg 3))  _ h) kw_6_169 kw_6_170 kw_1_12 kw_6_171 rfl rfl pd_X11_walker ⟨(Nat.le_of_ble_eq_true rfl), (Nat.le_of_ble_eq_true rfl)⟩ dX11_readWalker_31 rfl (Nat.le_of_ble_eq_true rfl) ⟨(Nat.le_of_ble_eq_true rfl), (Nat.le_of_ble_eq_true rfl)⟩ rfl (fun r31 u31 h => ?_)
    refine a_istore_n (lv' := [(0, .ref (L o)), (2, .int r31)]) C dX11_readWalker_34 rfl (by decide) [1, 0] rfl rfl ?_
    refine a_aload_n C dX11_readWalker_35 rfl 0 rfl rfl ?_
    refine g_11_9 C hE dX11_readWalker_36 ho kw_5_231 rfl ?_
    refine a_iload_n C dX11_readWalker_39 rfl 1 rfl rfl ?_
    refine a_aload_n C dX11_readWalker_40 rfl 0 rfl rfl ?_
    refine a_iconst (v := 0) C dX11_readWalker_41 (by decide) rfl ?_
    refine a_aload_n C dX11_readWalker_42 rfl 0 rfl rfl ?_
    refine g_11_9 C hE dX11_readWalker_43 ho kw_5_231 rfl ?_
    refine a_iconst (v := 0) C dX11_readWalker_46 (by decide) rfl ?_
    obtain ⟨q47, h⟩ := h
    refine a_iald C dX11_readWalker_47 k26 n26 q47 rfl ?_
    refine a_iconst (v := 1) C dX11_readWalker_48 (by decide) rfl ?_
    refine a_isub C dX11_readWalker_49 rfl ?_
    refine a_callVI C (c_X11_number l G cy L E hE u31 o 0 ((ms_I u31 (ms_at E o 9) (Int32.toNatClampNeg 0)) - 1) ho _ h) ho rfl (by decide) kw_6_128 kw_6_130 kp_49 kw_1_12 kw_6_131 rfl rfl pd_X11_number ⟨(Nat.le_of_ble_eq_true rfl), (Nat.le_of_ble_eq_true rfl)⟩ dX11_readWalker_50 rfl (Nat.le_of_ble_eq_true rfl) ⟨(Nat.le_of_ble_eq_true rfl), (Nat.le_of_ble_eq_true rfl)⟩ rfl (fun r50 u50 h => ?_)
    obtain ⟨q53, h⟩ := h
    refine a_iast C dX11_readWalker_53 k26 n26 q53 rfl ?_
    refine a_aload_n C dX11_readWalker_54 rfl 0 rfl rfl ?_
    refine g_11_9 C hE dX11_readWalker_55 ho kw_5_231 rfl ?_
    refine a_iload_n C dX11_readWalker_58 rfl 1 rfl rfl ?_
    refine a_iconst (v := 1) C dX11_readWalker_59 (by decide) rfl ?_
    refine a_iadd C dX11_readWalker_60 rfl ?_
    refine a_aload_n C dX11_readWalker_61 rfl 0 rfl rfl ?_
    refine a_iconst (v := 0) C dX11_readWalker_62 (by decide) rfl ?_
    refine a_sipush (v := 1440) C dX11_readWalker_63 (by decide) rfl ?_
    refine a_callVI C (c_X11_number l G cy L E hE (ms_sI u50 (ms_at E o 9) (Int32.toNatClampNeg r31) r50) o 0 1440 ho _ h) ho rfl (by decide) kw_6_128 kw_6_130 kp_49 kw_1_12 kw_6_131 rfl rfl pd_X11_number ⟨(Nat.le_of_ble_eq_true rfl), (Nat.le_of_ble_eq_true rfl)⟩ dX11_readWalker_66 rfl (Nat.le_of_ble_eq_true rfl) ⟨(Nat.le_of_ble_eq_true rfl), (Nat.le_of_ble_eq_true rfl)⟩ rfl (fun r66 u66 h => ?_)
    obtain ⟨q69, h⟩ := h
    refine a_iast C dX11_readWalker_69 k26 n26 q69 rfl ?_
    refine a_aload_n C dX11_readWalker_70 rfl 0 rfl rfl ?_
    refine g_11_9 C hE dX11_readWalker_71 ho kw_5_231 rfl ?_
    refine a_iconst (v := 3) C dX11_readWalker_74 (by decide) rfl ?_
    refine a_dup2 C dX11_readWalker_75 rfl rfl rfl ?_
    obtain ⟨q76, h⟩ := h
    refine a_iald C dX11_readWalker_76 k26 n26 q76 rfl ?_
    refine a_iconst (v := 1) C dX11_readWalker_77 (by decide) rfl ?_
    refine a_iadd C dX11_readWalker_78 rfl ?_
    obtain ⟨q79, h⟩ := h
    refine a_iast C dX11_readWalker_79 k26 n26 q79 rfl ?_
    refine a_nmU (fun w79 e79 => ?_)
    replace h := h w79 e79
    exact a_vret C dX11_readWalker_80 hr hlocks (Nat.le_of_ble_eq_true rfl) (Nat.le_of_ble_eq_true rfl) h
  · replace h := h.1 hc
    exact a_vret C dX11_readWalker_24 hr hlocks (Nat.le_of_ble_eq_true rfl) (Nat.le_of_ble_eq_true rfl) h
def wp_X11_readWalker (E : ms_En) (u : ms_St) (o : Nat) (a1 : Int32) (post : ms_St → Prop) : Prop := vp_in 3 1613 ∧ (((ms_I u (ms_at E o 9) (Int32.toNatClampNeg 3)) = 3 → wp_X11_report E u o (-4) a1 (fun u14 => wp_X11_readWalker_17 E o a1 post u14)) ∧ (¬ (ms_I u (ms_at E o 9) (Int32.toNatClampNeg 3)) = 3 → wp_X11_readWalker_17 E o a1 post u))
set_option maxHeartbeats 4000000 in
set_option maxRecDepth 100000 in
theorem c_X11_readWalker (l : Launch) (G : va_G) (cy : Nat → ClassId) (L : Nat → Nat) (E : ms_En) (hE : ms_WT E) (u : ms_St) (o : Nat) (a1 : Int32) (ho : ms_is E o 11) (post : ms_St → Prop) (h : wp_X11_readWalker E u o a1 post) : ms_MetV l ⟨"CensusWalkModel", "readWalker", "(I)V"⟩ (Cond.code ⟨"CensusWalkModel", "readWalker", "(I)V"⟩ prog_13_method_25_code 3 none :: lw_g) ({ frames := 3, cells := 0, slots := 0, locals := 65 } : Room) G cy L E [.ref (L o), .int a1] u post 0 0 := by
  refine ms_enterV (lv := [(0, .ref (L o)), (1, .int a1)]) (by decide) (Nat.le_of_ble_eq_true rfl) rfl ?_
  intro p e s m args below meth c A C hr hlocks
  unfold wp_X11_readWalker at h
  refine a_aload_n C dX11_readWalker_0 rfl 0 rfl rfl ?_
  refine g_11_9 C hE dX11_readWalker_1 ho kw_5_231 rfl ?_
  have k1 : ms_is E (ms_at E o 9) 13 := ms_wt hE ho rfl (by decide)
  have n1 : ms_N E (ms_at E o 9) = 1613 := ms_wl hE ho (by decide) (by decide) rfl
  refine a_iconst (v := 3) C dX11_readWalker_4 (by decide) rfl ?_
  obtain ⟨q5, h⟩ := h
  refine a_iald C dX11_readWalker_5 k1 n1 q5 rfl ?_
  refine a_iconst (v := 3) C dX11_readWalker_6 (by decide) rfl ?_
  refine a_icmp_ne (tgt := 17) C dX11_readWalker_7 (by decide) rfl (fun hc => ?_) (fun hc => ?_)
  · replace h := h.2 hc
    refine a_sub (lv' := [(0, .ref (L o))]) [0] rfl ?_
    exact c_X11_readWalker_17 C hr hlocks hE ho  u  h
  · replace h := h.1 hc
    refine a_aload_n C dX11_readWalker_10 rfl 0 rfl rfl ?_
    refine a_bipush (v := (-4)) C dX11_readWalker_11 (by decide) rfl ?_
    refine a_iload_n C dX11_readWalker_13 rfl 1 rfl rfl ?_
    refine a_callVV C (c_X11_report l G cy L E hE u o (-4) a1 ho _ h) ho rfl (by decide) kw_6_124 kw_6_126 kp_48 kw_1_12 kw_6_127 rfl rfl pd_X11_report ⟨(Nat.le_of_ble_eq_true rfl), (Nat.le_of_ble_eq_true rfl)⟩ dX11_readWalker_14 rfl (Nat.le_of_ble_eq_true rfl) ⟨(Nat.le_of_ble_eq_true rfl), (Nat.le_of_ble_eq_true rfl)⟩ rfl (fun u14 h => ?_)
    refine a_sub (lv' := [(0, .ref (L o))]) [0] rfl ?_
    exact c_X11_readWalker_17 C hr hlocks hE ho  u14  h

/-! CensusWalkModel.once(II)V -/
theorem pd_X11_once : (⟨"CensusWalkModel", "once", "(II)V"⟩ : MethodName).cls = "CensusWalkModel" ∧ (⟨"CensusWalkModel", "once", "(II)V"⟩ : MethodName).cls ≠ "java/lang/invoke/MethodHandle" ∧ (⟨"CensusWalkModel", "once", "(II)V"⟩ : MethodName).cls ≠ "java/lang/invoke/VarHandle" ∧ (parseMethodDescriptor (⟨"CensusWalkModel", "once", "(II)V"⟩ : MethodName).desc).map (fun d => d.parameters.length) = some 2 := by decide +kernel
def wp_X11_once_19 (E : ms_En) (o : Nat) (a1 : Int32) (a2 : Int32) (post : ms_St → Prop)  (u : ms_St)  : Prop := post (ms_sI u o 14 ((ms_I u o 14) ||| (1 <<< (a1 &&& 31))))
set_option maxHeartbeats 4000000 in
set_option maxRecDepth 100000 in
theorem c_X11_once_19 {p : Program} {l : Launch} {e : Env} {s : State} {m : MethodId} {args : Array Value} {below : List Frame} {meth : Method} {c : Code} {G : va_G} {cy : Nat → ClassId} {A : Nat → Prop} {L : Nat → Nat} {E : ms_En} (C : ms_Cx p m c cX11_once 3 s args (Cond.code ⟨"CensusWalkModel", "once", "(II)V"⟩ prog_13_method_26_code 3 none) "CensusWalkModel" G cy A) (hr : meth.sig.returnType = none) (hlocks : meth.locks = false) (hE : ms_WT E) {o : Nat} {a1 : Int32} {a2 : Int32} {post : ms_St → Prop}  (ho : ms_is E o 11)  (u : ms_St)   (h : wp_X11_once_19 E o a1 a2 post u ) : ms_At p l e ({ frames := 1, cells := 0, slots := 0, locals := 22 } : Room) s m args below meth c 3 G cy A L 0 0 (ms_QV below args s G cy L E A post 0 0) E u 19 [(0, .ref (L o)), (1, .int a1)] [] := by
  unfold wp_X11_once_19 at h
  refine a_aload_n C dX11_once_19 rfl 0 rfl rfl ?_
  refine a_dup C dX11_once_20 rfl rfl ?_
  refine g_11_14 C dX11_once_21 ho kw_5_236 rfl ?_
  refine a_iconst (v := 1) C dX11_once_24 (by decide) rfl ?_
  refine a_iload_n C dX11_once_25 rfl 1 rfl rfl ?_
  refine a_ishl C dX11_once_26 rfl ?_
  refine a_ior C dX11_once_27 rfl ?_
  refine s_11_14 C dX11_once_28 ho kw_5_236 rfl ?_
  exact a_vret C dX11_once_31 hr hlocks (Nat.le_of_ble_eq_true rfl) (Nat.le_of_ble_eq_true rfl) h
def wp_X11_once (E : ms_En) (u : ms_St) (o : Nat) (a1 : Int32) (a2 : Int32) (post : ms_St → Prop) : Prop := ((((ms_I u o 14) >>> (a1 &&& 31)) &&& 1) = 1 → wp_X11_report E u o (-2) a2 (fun u16 => wp_X11_once_19 E o a1 a2 post u16)) ∧ (¬ (((ms_I u o 14) >>> (a1 &&& 31)) &&& 1) = 1 → wp_X11_once_19 E o a1 a2 post u)
set_option maxHeartbeats 4000000 in
set_option maxRecDepth 100000 in
theorem c_X11_once (l : Launch) (G : va_G) (cy : Nat → ClassId) (L : Nat → Nat) (E : ms_En) (hE : ms_WT E) (u : ms_St) (o : Nat) (a1 : Int32) (a2 : Int32) (ho : ms_is E o 11) (post : ms_St → Prop) (h : wp_X11_once E u o a1 a2 post) : ms_MetV l ⟨"CensusWalkModel", "once", "(II)V"⟩ (Cond.code ⟨"CensusWalkModel", "once", "(II)V"⟩ prog_13_method_26_code 3 none :: lw_g) ({ frames := 1, cells := 0, slots := 0, locals := 22 } : Room) G cy L E [.ref (L o), .int a1, .int a2] u post 0 0 := by
  refine ms_enterV (lv := [(0, .ref (L o)), (1, .int a1), (2, .int a2)]) (by decide) (Nat.le_of_ble_eq_true rfl) rfl ?_
  intro p e s m args below meth c A C hr hlocks
  unfold wp_X11_once at h
  refine a_aload_n C dX11_once_0 rfl 0 rfl rfl ?_
  refine g_11_14 C dX11_once_1 ho kw_5_236 rfl ?_
  refine a_iload_n C dX11_once_4 rfl 1 rfl rfl ?_
  refine a_ishr C dX11_once_5 rfl ?_
  refine a_iconst (v := 1) C dX11_once_6 (by decide) rfl ?_
  refine a_iand C dX11_once_7 rfl ?_
  refine a_iconst (v := 1) C dX11_once_8 (by decide) rfl ?_
  refine a_icmp_ne (tgt := 19) C dX11_once_9 (by decide) rfl (fun hc => ?_) (fun hc => ?_)
  · replace h := h.2 hc
    refine a_sub (lv' := [(0, .ref (L o)), (1, .int a1)]) [0, 1] rfl ?_
    exact c_X11_once_19 C hr hlocks hE ho  u  h
  · replace h := h.1 hc
    refine a_aload_n C dX11_once_12 rfl 0 rfl rfl ?_
    refine a_bipush (v := (-2)) C dX11_once_13 (by decide) rfl ?_
    refine a_iload_n C dX11_once_15 rfl 2 rfl rfl ?_
    refine a_callVV C (c_X11_report l G cy L E hE u o (-2) a2 ho _ h) ho rfl (by decide) kw_6_124 kw_6_126 kp_48 kw_1_12 kw_6_127 rfl rfl pd_X11_report ⟨(Nat.le_of_ble_eq_true rfl), (Nat.le_of_ble_eq_true rfl)⟩ dX11_once_16 rfl (Nat.le_of_ble_eq_true rfl) ⟨(Nat.le_of_ble_eq_true rfl), (Nat.le_of_ble_eq_true rfl)⟩ rfl (fun u16 h => ?_)
    refine a_sub (lv' := [(0, .ref (L o)), (1, .int a1)]) [0, 1] rfl ?_
    exact c_X11_once_19 C hr hlocks hE ho  u16  h

/-! CensusWalkModel.errorOffset()I -/
theorem pd_X11_errorOffset : (⟨"CensusWalkModel", "errorOffset", "()I"⟩ : MethodName).cls = "CensusWalkModel" ∧ (⟨"CensusWalkModel", "errorOffset", "()I"⟩ : MethodName).cls ≠ "java/lang/invoke/MethodHandle" ∧ (⟨"CensusWalkModel", "errorOffset", "()I"⟩ : MethodName).cls ≠ "java/lang/invoke/VarHandle" ∧ (parseMethodDescriptor (⟨"CensusWalkModel", "errorOffset", "()I"⟩ : MethodName).desc).map (fun d => d.parameters.length) = some 0 := by decide +kernel
def wp_X11_errorOffset (E : ms_En) (u : ms_St) (o : Nat) (post : Int32 → ms_St → Prop) : Prop := post (ms_I (ms_sI u o 0 0) o 7) (ms_sI u o 0 0)
set_option maxHeartbeats 4000000 in
set_option maxRecDepth 100000 in
theorem c_X11_errorOffset (l : Launch) (G : va_G) (cy : Nat → ClassId) (L : Nat → Nat) (E : ms_En) (hE : ms_WT E) (u : ms_St) (o : Nat) (ho : ms_is E o 11) (post : Int32 → ms_St → Prop) (h : wp_X11_errorOffset E u o post) : ms_MetI l ⟨"CensusWalkModel", "errorOffset", "()I"⟩ (Cond.code ⟨"CensusWalkModel", "errorOffset", "()I"⟩ prog_13_method_29_code 1 (some .int) :: lw_g) ({ frames := 0, cells := 0, slots := 0, locals := 0 } : Room) G cy L E [.ref (L o)] u post 0 0 := by
  refine ms_enterI (lv := [(0, .ref (L o))]) (by decide) (Nat.le_of_ble_eq_true rfl) rfl ?_
  intro p e s m args below meth c A C hr hlocks
  unfold wp_X11_errorOffset at h
  refine a_aload_n C dX11_errorOffset_0 rfl 0 rfl rfl ?_
  refine a_iconst (v := 0) C dX11_errorOffset_1 (by decide) rfl ?_
  refine s_11_0 C dX11_errorOffset_2 ho kw_5_222 rfl ?_
  refine a_aload_n C dX11_errorOffset_5 rfl 0 rfl rfl ?_
  refine g_11_7 C dX11_errorOffset_6 ho kw_5_229 rfl ?_
  exact a_iret C dX11_errorOffset_9 hr hlocks (Nat.le_of_ble_eq_true rfl) (Nat.le_of_ble_eq_true rfl) h

/-! CensusWalkModel.findWays()V -/
theorem pd_X11_findWays : (⟨"CensusWalkModel", "findWays", "()V"⟩ : MethodName).cls = "CensusWalkModel" ∧ (⟨"CensusWalkModel", "findWays", "()V"⟩ : MethodName).cls ≠ "java/lang/invoke/MethodHandle" ∧ (⟨"CensusWalkModel", "findWays", "()V"⟩ : MethodName).cls ≠ "java/lang/invoke/VarHandle" ∧ (parseMethodDescriptor (⟨"CensusWalkModel", "findWays", "()V"⟩ : MethodName).desc).map (fun d => d.parameters.length) = some 0 := by decide +kernel
def wp_X11_findWays_176 (E : ms_En) (o : Nat) (post : ms_St → Prop) (k161 : ms_St → Int32 → Int32 → Prop) (k168 : ms_St → Int32 → Int32 → Int32 → Prop) : Nat → ms_St → Int32 → Int32 → Int32 → Int32 → Prop
  | 0 => fun _ _ _ _ _ => False
  | n + 1 => fun u x1 x2 x3 x4 => (x1 ≤ x4 → k168 u x1 x2 (x3 + 1)) ∧ (¬ x1 ≤ x4 → vp_in x3 10 ∧ (vp_in x3 10 ∧ (vp_in x4 10 ∧ (vp_in x3 10 ∧ (vp_in x2 10 ∧ (vp_in x2 10 ∧ (vp_in x4 10 ∧ (wp_X11_min E u (ms_I u (ms_at E (ms_at E o 15) (Int32.toNatClampNeg x3)) (Int32.toNatClampNeg x4)) ((ms_I u (ms_at E (ms_at E o 15) (Int32.toNatClampNeg x3)) (Int32.toNatClampNeg x2)) + (ms_I u (ms_at E (ms_at E o 15) (Int32.toNatClampNeg x2)) (Int32.toNatClampNeg x4))) (fun r217 u217 => vp_in x4 10 ∧ (∀ w220 : ms_St, w220 = (ms_sI u217 (ms_at E (ms_at E o 15) (Int32.toNatClampNeg x3)) (Int32.toNatClampNeg x4) r217) → (wp_X11_findWays_176 E o post k161 k168 n w220 x1 x2 x3 (x4 + 1))))))))))))
set_option maxHeartbeats 4000000 in
set_option maxRecDepth 100000 in
theorem c_X11_findWays_176 {p : Program} {l : Launch} {e : Env} {s : State} {m : MethodId} {args : Array Value} {below : List Frame} {meth : Method} {c : Code} {G : va_G} {cy : Nat → ClassId} {A : Nat → Prop} {L : Nat → Nat} {E : ms_En} (C : ms_Cx p m c cX11_findWays 6 s args (Cond.code ⟨"CensusWalkModel", "findWays", "()V"⟩ prog_13_method_30_code 6 none) "CensusWalkModel" G cy A) (hr : meth.sig.returnType = none) (hlocks : meth.locks = false) (hE : ms_WT E) {o : Nat} {post : ms_St → Prop} {k161 : ms_St → Int32 → Int32 → Prop} {k168 : ms_St → Int32 → Int32 → Int32 → Prop} (ho : ms_is E o 11) (hk161 : ∀ (u : ms_St) (x1 : Int32) (x2 : Int32), k161 u x1 x2 → ms_At p l e ({ frames := 1, cells := 0, slots := 0, locals := 21 } : Room) s m args below meth c 6 G cy A L 0 0 (ms_QV below args s G cy L E A post 0 0) E u 161 [(0, .ref (L o)), (1, .int x1), (2, .int x2)] []) (hk168 : ∀ (u : ms_St) (x1 : Int32) (x2 : Int32) (x3 : Int32), k168 u x1 x2 x3 → ms_At p l e ({ frames := 1, cells := 0, slots := 0, locals := 21 } : Room) s m args below meth c 6 G cy A L 0 0 (ms_QV below args s G cy L E A post 0 0) E u 168 [(0, .ref (L o)), (1, .int x1), (2, .int x2), (3, .int x3)] []) : ∀ (n : Nat) (u : ms_St) (x1 : Int32) (x2 : Int32) (x3 : Int32) (x4 : Int32), wp_X11_findWays_176 E o post k161 k168 n u x1 x2 x3 x4 → ms_At p l e ({ frames := 1, cells := 0, slots := 0, locals := 21 } : Room) s m args below meth c 6 G cy A L 0 0 (ms_QV below args s G cy L E A post 0 0) E u 176 [(0, .ref (L o)), (1, .int x1), (2, .int x2), (3, .int x3), (4, .int x4)] [] := by
  intro n
  induction n with
  | zero =>
    intro u x1 x2 x3 x4  h
    exact absurd h id
  | succ n ih =>
    intro u x1 x2 x3 x4  h
    unfold wp_X11_findWays_176 at h
    refine a_iload C dX11_findWays_176 4 rfl rfl ?_
    refine a_iload_n C dX11_findWays_178 rfl 1 rfl rfl ?_
    refine a_icmp_ge (tgt := 227) C dX11_findWays_179 (by decide) rfl (fun hc => ?_) (fun hc => ?_)
    · replace h := h.1 hc
      refine a_iinc (lv' := [(0, .ref (L o)), (1, .int x1), (2, .int x2), (3, .int (x3 + 1)), (4, .int x4)]) (v := (x3 + 1)) C dX11_findWays_227 3 rfl (congrArg (fun z => x3 + z) (by decide)) (by decide) [1, 2, 3, 0, 4] rfl rfl ?_
      refine a_goto (tgt := 168) C dX11_findWays_230 (by decide) ?_
      refine a_sub (lv' := [(0, .ref (L o)), (1, .int x1), (2, .int x2), (3, .int (x3 + 1))]) [0, 1, 2, 3] rfl ?_
      exact hk168 u x1 x2 (x3 + 1)  h
    · replace h := h.2 hc
      refine a_aload_n C dX11_findWays_182 rfl 0 rfl rfl ?_
      refine g_11_15 C hE dX11_findWays_183 ho kw_5_237 rfl ?_
      have k183 : ms_is E (ms_at E o 15) 18 := ms_wt hE ho rfl (by decide)
      have n183 : ms_N E (ms_at E o 15) = 10 := ms_wl hE ho (by decide) (by decide) rfl
      refine a_iload_n C dX11_findWays_186 rfl 3 rfl rfl ?_
      obtain ⟨q187, h⟩ := h
      refine a_aldI C dX11_findWays_187 k183 (by decide) n183 q187 (hE.2.2 _ _ _ k183 (by decide) (by decide) (ms_in n183 q187)).1 rfl ?_
      have k187 : ms_is E (ms_at E (ms_at E o 15) (Int32.toNatClampNeg x3)) 13 := (hE.2.2 _ _ _ k183 (by decide) (by decide) (ms_in n183 q187)).2.1
      have n187 : ms_N E (ms_at E (ms_at E o 15) (Int32.toNatClampNeg x3)) = 10 := (hE.2.2 _ _ _ k183 (by decide) (by decide) (ms_in n183 q187)).2.2
      refine a_iload C dX11_findWays_188 4 rfl rfl ?_
      refine a_aload_n C dX11_findWays_190 rfl 0 rfl rfl ?_
      refine g_11_15 C hE dX11_findWays_191 ho kw_5_237 rfl ?_
      refine a_iload_n C dX11_findWays_194 rfl 3 rfl rfl ?_
      obtain ⟨q195, h⟩ := h
      refine a_aldI C dX11_findWays_195 k183 (by decide) n183 q195 (hE.2.2 _ _ _ k183 (by decide) (by decide) (ms_in n183 q195)).1 rfl ?_
      have k195 : ms_is E (ms_at E (ms_at E o 15) (Int32.toNatClampNeg x3)) 13 := (hE.2.2 _ _ _ k183 (by decide) (by decide) (ms_in n183 q195)).2.1
      have n195 : ms_N E (ms_at E (ms_at E o 15) (Int32.toNatClampNeg x3)) = 10 := (hE.2.2 _ _ _ k183 (by decide) (by decide) (ms_in n183 q195)).2.2
      refine a_iload C dX11_findWays_196 4 rfl rfl ?_
      obtain ⟨q198, h⟩ := h
      refine a_iald C dX11_findWays_198 k195 n195 q198 rfl ?_
      refine a_aload_n C dX11_findWays_199 rfl 0 rfl rfl ?_
      refine g_11_15 C hE dX11_findWays_200 ho kw_5_237 rfl ?_
      refine a_iload_n C dX11_findWays_203 rfl 3 rfl rfl ?_
      obtain ⟨q204, h⟩ := h
      refine a_aldI C dX11_findWays_204 k183 (by decide) n183 q204 (hE.2.2 _ _ _ k183 (by decide) (by decide) (ms_in n183 q204)).1 rfl ?_
      have k204 : ms_is E (ms_at E (ms_at E o 15) (Int32.toNatClampNeg x3)) 13 := (hE.2.2 _ _ _ k183 (by decide) (by decide) (ms_in n183 q204)).2.1
      have n204 : ms_N E (ms_at E (ms_at E o 15) (Int32.toNatClampNeg x3)) = 10 := (hE.2.2 _ _ _ k183 (by decide) (by decide) (ms_in n183 q204)).2.2
      refine a_iload_n C dX11_findWays_205 rfl 2 rfl rfl ?_
      obtain ⟨q206, h⟩ := h
      refine a_iald C dX11_findWays_206 k204 n204 q206 rfl ?_
      refine a_aload_n C dX11_findWays_207 rfl 0 rfl rfl ?_
      refine g_11_15 C hE dX11_findWays_208 ho kw_5_237 rfl ?_
      refine a_iload_n C dX11_findWays_211 rfl 2 rfl rfl ?_
      obtain ⟨q212, h⟩ := h
      refine a_aldI C dX11_findWays_212 k183 (by decide) n183 q212 (hE.2.2 _ _ _ k183 (by decide) (by decide) (ms_in n183 q212)).1 rfl ?_
      have k212 : ms_is E (ms_at E (ms_at E o 15) (Int32.toNatClampNeg x2)) 13 := (hE.2.2 _ _ _ k183 (by decide) (by decide) (ms_in n183 q212)).2.1
      have n212 : ms_N E (ms_at E (ms_at E o 15) (Int32.toNatClampNeg x2)) = 10 := (hE.2.2 _ _ _ k183 (by decide) (by decide) (ms_in n183 q212)).2.2
      refine a_iload C dX11_findWays_213 4 rfl rfl ?_
      obtain ⟨q215, h⟩ := h
      refine a_iald C dX11_findWays_215 k212 n212 q215 rfl ?_
      refine a_iadd C dX11_findWays_216 rfl ?_
      refine a_callSI C (c_X11_min l G cy L E hE u (ms_I u (ms_at E (ms_at E o 15) (Int32.toNatClampNeg x3)) (Int32.toNatClampNeg x4)) ((ms_I u (ms_at E (ms_at E o 15) (Int32.toNatClampNeg x3)) (Int32.toNatClampNeg x2)) + (ms_I u (ms_at E (ms_at E o 15) (Int32.toNatClampNeg x2)) (Int32.toNatClampNeg x4)))  _ h) kw_6_136 kw_6_137 kw_1_12 kw_6_138 rfl rfl pd_X11_min ⟨(Nat.le_of_ble_eq_true rfl), (Nat.le_of_ble_eq_true rfl)⟩ dX11_findWays_217 rfl (Nat.le_of_ble_eq_true rfl) ⟨(Nat.le_of_ble_eq_true rfl), (Nat.le_of_ble_eq_true rfl)⟩ rfl (fun r217 u217 h => ?_)
      obtain ⟨q220, h⟩ := h
      refine a_iast C dX11_findWays_220 k204 n204 q220 rfl ?_
      refine a_nmU (fun w220 e220 => ?_)
      replace h := h w220 e220
      refine a_iinc (lv' := [(0, .ref (L o)), (1, .int x1), (2, .int x2), (3, .int x3), (4, .int (x4 + 1))]) (v := (x4 + 1)) C dX11_findWays_221 4 rfl (congrArg (fun z => x4 + z) (by decide)) (by decide) [1, 2, 3, 4, 0] rfl rfl ?_
      refine a_goto (tgt := 176) C dX11_findWays_224 (by decide) ?_
      exact ih w220 x1 x2 x3 (x4 + 1)  h
def wp_X11_findWays_168 (E : ms_En) (o : Nat) (post : ms_St → Prop) (k161 : ms_St → Int32 → Int32 → Prop) : Nat → ms_St → Int32 → Int32 → Int32 → Prop
  | 0 => fun _ _ _ _ => False
  | n + 1 => fun u x1 x2 x3 => (x1 ≤ x3 → k161 u x1 (x2 + 1)) ∧ (¬ x1 ≤ x3 → ∃ n176, wp_X11_findWays_176 E o post k161 (wp_X11_findWays_168 E o post k161 n) n176 u x1 x2 x3 0)
set_option maxHeartbeats 4000000 in
set_option maxRecDepth 100000 in
theorem c_X11_findWays_168 {p : Program} {l : Launch} {e : Env} {s : State} {m : MethodId} {args : Array Value} {below : List Frame} {meth : Method} {c : Code} {G : va_G} {cy : Nat → ClassId} {A : Nat → Prop} {L : Nat → Nat} {E : ms_En} (C : ms_Cx p m c cX11_findWays 6 s args (Cond.code ⟨"CensusWalkModel", "findWays", "()V"⟩ prog_13_method_30_code 6 none) "CensusWalkModel" G cy A) (hr : meth.sig.returnType = none) (hlocks : meth.locks = false) (hE : ms_WT E) {o : Nat} {post : ms_St → Prop} {k161 : ms_St → Int32 → Int32 → Prop} (ho : ms_is E o 11) (hk161 : ∀ (u : ms_St) (x1 : Int32) (x2 : Int32), k161 u x1 x2 → ms_At p l e ({ frames := 1, cells := 0, slots := 0, locals := 21 } : Room) s m args below meth c 6 G cy A L 0 0 (ms_QV below args s G cy L E A post 0 0) E u 161 [(0, .ref (L o)), (1, .int x1), (2, .int x2)] []) : ∀ (n : Nat) (u : ms_St) (x1 : Int32) (x2 : Int32) (x3 : Int32), wp_X11_findWays_168 E o post k161 n u x1 x2 x3 → ms_At p l e ({ frames := 1, cells := 0, slots := 0, locals := 21 } : Room) s m args below meth c 6 G cy A L 0 0 (ms_QV below args s G cy L E A post 0 0) E u 168 [(0, .ref (L o)), (1, .int x1), (2, .int x2), (3, .int x3)] [] := by
  intro n
  induction n with
  | zero =>
    intro u x1 x2 x3  h
    exact absurd h id
  | succ n ih =>
    intro u x1 x2 x3  h
    unfold wp_X11_findWays_168 at h
    refine a_iload_n C dX11_findWays_168 rfl 3 rfl rfl ?_
    refine a_iload_n C dX11_findWays_169 rfl 1 rfl rfl ?_
    refine a_icmp_ge (tgt := 233) C dX11_findWays_170 (by decide) rfl (fun hc => ?_) (fun hc => ?_)
    · replace h := h.1 hc
      refine a_iinc (lv' := [(0, .ref (L o)), (1, .int x1), (2, .int (x2 + 1)), (3, .int x3)]) (v := (x2 + 1)) C dX11_findWays_233 2 rfl (congrArg (fun z => x2 + z) (by decide)) (by decide) [1, 2, 0, 3] rfl rfl ?_
      refine a_goto (tgt := 161) C dX11_findWays_236 (by decide) ?_
      refine a_sub (lv' := [(0, .ref (L o)), (1, .int x1), (2, .int (x2 + 1))]) [0, 1, 2] rfl ?_
      exact hk161 u x1 (x2 + 1)  h
    · replace h := h.2 hc
      refine a_iconst (v := 0) C dX11_findWays_173 (by decide) rfl ?_
      refine a_istore (lv' := [(0, .ref (L o)), (1, .int x1), (2, .int x2), (3, .int x3), (4, .int 0)]) C dX11_findWays_174 (by decide) [1, 2, 3, 4, 0] rfl rfl ?_
      obtain ⟨n9, h⟩ := h
      exact c_X11_findWays_176 C hr hlocks hE ho hk161 ih n9 u x1 x2 x3 0  h
def wp_X11_findWays_161 (E : ms_En) (o : Nat) (post : ms_St → Prop)  : Nat → ms_St → Int32 → Int32 → Prop
  | 0 => fun _ _ _ => False
  | n + 1 => fun u x1 x2 => (x1 ≤ x2 → post u) ∧ (¬ x1 ≤ x2 → ∃ n168, wp_X11_findWays_168 E o post (wp_X11_findWays_161 E o post n) n168 u x1 x2 0)
set_option maxHeartbeats 4000000 in
set_option maxRecDepth 100000 in
theorem c_X11_findWays_161 {p : Program} {l : Launch} {e : Env} {s : State} {m : MethodId} {args : Array Value} {below : List Frame} {meth : Method} {c : Code} {G : va_G} {cy : Nat → ClassId} {A : Nat → Prop} {L : Nat → Nat} {E : ms_En} (C : ms_Cx p m c cX11_findWays 6 s args (Cond.code ⟨"CensusWalkModel", "findWays", "()V"⟩ prog_13_method_30_code 6 none) "CensusWalkModel" G cy A) (hr : meth.sig.returnType = none) (hlocks : meth.locks = false) (hE : ms_WT E) {o : Nat} {post : ms_St → Prop}  (ho : ms_is E o 11)  : ∀ (n : Nat) (u : ms_St) (x1 : Int32) (x2 : Int32), wp_X11_findWays_161 E o post n u x1 x2 → ms_At p l e ({ frames := 1, cells := 0, slots := 0, locals := 21 } : Room) s m args below meth c 6 G cy A L 0 0 (ms_QV below args s G cy L E A post 0 0) E u 161 [(0, .ref (L o)), (1, .int x1), (2, .int x2)] [] := by
  intro n
  induction n with
  | zero =>
    intro u x1 x2  h
    exact absurd h id
  | succ n ih =>
    intro u x1 x2  h
    unfold wp_X11_findWays_161 at h
    refine a_iload_n C dX11_findWays_161 rfl 2 rfl rfl ?_
    refine a_iload_n C dX11_findWays_162 rfl 1 rfl rfl ?_
    refine a_icmp_ge (tgt := 239) C dX11_findWays_163 (by decide) rfl (fun hc => ?_) (fun hc => ?_)
    · replace h := h.1 hc
      exact a_vret C dX11_findWays_239 hr hlocks (Nat.le_of_ble_eq_true rfl) (Nat.le_of_ble_eq_true rfl) h
    · replace h := h.2 hc
      refine a_iconst (v := 0) C dX11_findWays_166 (by decide) rfl ?_
      refine a_istore_n (lv' := [(0, .ref (L o)), (1, .int x1), (2, .int x2), (3, .int 0)]) C dX11_findWays_167 rfl (by decide) [1, 2, 3, 0] rfl rfl ?_
      obtain ⟨n9, h⟩ := h
      exact c_X11_findWays_168 C hr hlocks hE ho ih n9 u x1 x2 0  h
def wp_X11_findWays_153 (E : ms_En) (o : Nat) (post : ms_St → Prop) (k54 : ms_St → Int32 → Int32 → Prop) (u : ms_St) (x1 : Int32) (x2 : Int32) : Prop := k54 u x1 (x2 + 1)
set_option maxHeartbeats 4000000 in
set_option maxRecDepth 100000 in
theorem c_X11_findWays_153 {p : Program} {l : Launch} {e : Env} {s : State} {m : MethodId} {args : Array Value} {below : List Frame} {meth : Method} {c : Code} {G : va_G} {cy : Nat → ClassId} {A : Nat → Prop} {L : Nat → Nat} {E : ms_En} (C : ms_Cx p m c cX11_findWays 6 s args (Cond.code ⟨"CensusWalkModel", "findWays", "()V"⟩ prog_13_method_30_code 6 none) "CensusWalkModel" G cy A) (hr : meth.sig.returnType = none) (hlocks : meth.locks = false) (hE : ms_WT E) {o : Nat} {post : ms_St → Prop} {k54 : ms_St → Int32 → Int32 → Prop} (ho : ms_is E o 11) (hk54 : ∀ (u : ms_St) (x1 : Int32) (x2 : Int32), k54 u x1 x2 → ms_At p l e ({ frames := 1, cells := 0, slots := 0, locals := 21 } : Room) s m args below meth c 6 G cy A L 0 0 (ms_QV below args s G cy L E A post 0 0) E u 54 [(0, .ref (L o)), (1, .int x1), (2, .int x2)] []) (u : ms_St) (x1 : Int32) (x2 : Int32)  (h : wp_X11_findWays_153 E o post k54 u x1 x2) : ms_At p l e ({ frames := 1, cells := 0, slots := 0, locals := 21 } : Room) s m args below meth c 6 G cy A L 0 0 (ms_QV below args s G cy L E A post 0 0) E u 153 [(0, .ref (L o)), (1, .int x1), (2, .int x2)] [] := by
  unfold wp_X11_findWays_153 at h
  refine a_iinc (lv' := [(0, .ref (L o)), (1, .int x1), (2, .int (x2 + 1))]) (v := (x2 + 1)) C dX11_findWays_153 2 rfl (congrArg (fun z => x2 + z) (by decide)) (by decide) [1, 2, 0] rfl rfl ?_
  refine a_goto (tgt := 54) C dX11_findWays_156 (by decide) ?_
  exact hk54 u x1 (x2 + 1)  h
def wp_X11_findWays_54 (E : ms_En) (o : Nat) (post : ms_St → Prop)  : Nat → ms_St → Int32 → Int32 → Prop
  | 0 => fun _ _ _ => False
  | n + 1 => fun u x1 x2 => vp_in 1 1613 ∧ (((ms_I u (ms_at E o 8) (Int32.toNatClampNeg 1)) ≤ x2 → ∃ n161, wp_X11_findWays_161 E o post n161 u x1 0) ∧ (¬ (ms_I u (ms_at E o 8) (Int32.toNatClampNeg 1)) ≤ x2 → wp_X11_street E u x2 (fun r65 u65 => vp_in r65 1613 ∧ (∀ v75 : Int32, v75 = (ms_I u65 (ms_at E o 8) (Int32.toNatClampNeg r65)) → (vp_in (r65 + 1) 1613 ∧ (∀ v85 : Int32, v85 = (ms_I u65 (ms_at E o 8) (Int32.toNatClampNeg (r65 + 1))) → (vp_in (r65 + 3) 1613 ∧ (((ms_I u65 (ms_at E o 8) (Int32.toNatClampNeg (r65 + 3))) = 1 → wp_X11_findWays_153 E o post (wp_X11_findWays_54 E o post n) u65 x1 x2) ∧ (¬ (ms_I u65 (ms_at E o 8) (Int32.toNatClampNeg (r65 + 3))) = 1 → vp_in v75 10 ∧ (vp_in v75 10 ∧ (vp_in v85 10 ∧ (vp_in (r65 + 2) 1613 ∧ (wp_X11_min E u65 (ms_I u65 (ms_at E (ms_at E o 15) (Int32.toNatClampNeg v75)) (Int32.toNatClampNeg v85)) (ms_I u65 (ms_at E o 8) (Int32.toNatClampNeg (r65 + 2))) (fun r129 u129 => vp_in v85 10 ∧ (∀ w132 : ms_St, w132 = (ms_sI u129 (ms_at E (ms_at E o 15) (Int32.toNatClampNeg v75)) (Int32.toNatClampNeg v85) r129) → (vp_in v85 10 ∧ (vp_in v75 10 ∧ (vp_in v85 10 ∧ (vp_in v75 10 ∧ (∀ w152 : ms_St, w152 = (ms_sI w132 (ms_at E (ms_at E o 15) (Int32.toNatClampNeg v85)) (Int32.toNatClampNeg v75) (ms_I w132 (ms_at E (ms_at E o 15) (Int32.toNatClampNeg v75)) (Int32.toNatClampNeg v85))) → (wp_X11_findWays_153 E o post (wp_X11_findWays_54 E o post n) w152 x1 x2)))))))))))))))))))))
set_option maxHeartbeats 4000000 in
set_option maxRecDepth 100000 in
theorem c_X11_findWays_54 {p : Program} {l : Launch} {e : Env} {s : State} {m : MethodId} {args : Array Value} {below : List Frame} {meth : Method} {c : Code} {G : va_G} {cy : Nat → ClassId} {A : Nat → Prop} {L : Nat → Nat} {E : ms_En} (C : ms_Cx p m c cX11_findWays 6 s args (Cond.code ⟨"CensusWalkModel", "findWays", "()V"⟩ prog_13_method_30_code 6 none) "CensusWalkModel" G cy A) (hr : meth.sig.returnType = none) (hlocks : meth.locks = false) (hE : ms_WT E) {o : Nat} {post : ms_St → Prop}  (ho : ms_is E o 11)  : ∀ (n : Nat) (u : ms_St) (x1 : Int32) (x2 : Int32), wp_X11_findWays_54 E o post n u x1 x2 → ms_At p l e ({ frames := 1, cells := 0, slots := 0, locals := 21 } : Room) s m args below meth c 6 G cy A L 0 0 (ms_QV below args s G cy L E A post 0 0) E u 54 [(0, .ref (L o)), (1, .int x1), (2, .int x2)] [] := by
  intro n
  induction n with
  | zero =>
    intro u x1 x2  h
    exact absurd h id
  | succ n ih =>
    intro u x1 x2  h
    unfold wp_X11_findWays_54 at h
    refine a_iload_n C dX11_findWays_54 rfl 2 rfl rfl ?_
    refine a_aload_n C dX11_findWays_55 rfl 0 rfl rfl ?_
    refine g_11_8 C hE dX11_findWays_56 ho kw_5_230 rfl ?_
    have k56 : ms_is E (ms_at E o 8) 13 := ms_wt hE ho rfl (by decide)
    have n56 : ms_N E (ms_at E o 8) = 1613 := ms_wl hE ho (by decide) (by decide) rfl
    refine a_iconst (v := 1) C dX11_findWays_59 (by decide) rfl ?_
    obtain ⟨q60, h⟩ := h
    refine a_iald C dX11_findWays_60 k56 n56 q60 rfl ?_
    refine a_icmp_ge (tgt := 159) C dX11_findWays_61 (by decide) rfl (fun hc => ?_) (fun hc => ?_)
    · replace h := h.1 hc
      refine a_iconst (v := 0) C dX11_findWays_159 (by decide) rfl ?_
      refine a_istore_n (lv' := [(0, .ref (L o)), (1, .int x1), (2, .int 0)]) C dX11_findWays_160 rfl (by decide) [1, 2, 0] rfl rfl ?_
      obtain ⟨n9, h⟩ := h
      exact c_X11_findWays_161 C hr hlocks hE ho  n9 u x1 0  h
    · replace h := h.2 hc
      refine a_iload_n C dX11_findWays_64 rfl 2 rfl rfl ?_
      refine a_callSI C (c_X11_street l G cy L E hE u x2  _ h) kw_6_152 kw_6_153 kw_1_12 kw_6_154 rfl rfl pd_X11_street ⟨(Nat.le_of_ble_eq_true rfl), (Nat.le_of_ble_eq_true rfl)⟩ dX11_findWays_65 rfl (Nat.le_of_ble_eq_true rfl) ⟨(Nat.le_of_ble_eq_true rfl), (Nat.le_of_ble_eq_true rfl)⟩ rfl (fun r65 u65 h => ?_)
      refine a_istore_n (lv' := [(0, .ref (L o)), (1, .int x1), (2, .int x2), (3, .int r65)]) C dX11_findWays_68 rfl (by decide) [1, 2, 3, 0] rfl rfl ?_
      refine a_aload_n C dX11_findWays_69 rfl 0 rfl rfl ?_
      refine g_11_8 C hE dX11_findWays_70 ho kw_5_230 rfl ?_
      refine a_iload_n C dX11_findWays_73 rfl 3 rfl rfl ?_
      obtain ⟨q74, h⟩ := h
      refine a_iald C dX11_findWays_74 k56 n56 q74 rfl ?_
      refine a_nmI (fun v75 e75 => ?_)
      replace h := h v75 e75
      refine a_istore (lv' := [(0, .ref (L o)), (1, .int x1), (2, .int x2), (3, .int r65), (4, .int v75)]) C dX11_findWays_75 (by decide) [1, 2, 3, 4, 0] rfl rfl ?_
      refine a_aload_n C dX11_findWays_77 rfl 0 rfl rfl ?_
      refine g_11_8 C hE dX11_findWays_78 ho kw_5_230 rfl ?_
      refine a_iload_n C dX11_findWays_81 rfl 3 rfl rfl ?_
      refine a_iconst (v := 1) C dX11_findWays_82 (by decide) rfl ?_
      refine a_iadd C dX11_findWays_83 rfl ?_
      obtain ⟨q84, h⟩ := h
      refine a_iald C dX11_findWays_84 k56 n56 q84 rfl ?_
      refine a_nmI (fun v85 e85 => ?_)
      replace h := h v85 e85
      refine a_istore (lv' := [(0, .ref (L o)), (1, .int x1), (2, .int x2), (3, .int r65), (4, .int v75), (5, .int v85)]) C dX11_findWays_85 (by decide) [1, 2, 3, 4, 5, 0] rfl rfl ?_
      refine a_aload_n C dX11_findWays_87 rfl 0 rfl rfl ?_
      refine g_11_8 C hE dX11_findWays_88 ho kw_5_230 rfl ?_
      refine a_iload_n C dX11_findWays_91 rfl 3 rfl rfl ?_
      refine a_iconst (v := 3) C dX11_findWays_92 (by decide) rfl ?_
      refine a_iadd C dX11_findWays_93 rfl ?_
      obtain ⟨q94, h⟩ := h
      refine a_iald C dX11_findWays_94 k56 n56 q94 rfl ?_
      refine a_iconst (v := 1) C dX11_findWays_95 (by decide) rfl ?_
      refine a_icmp_ne (tgt := 102) C dX11_findWays_96 (by decide) rfl (fun hc => ?_) (fun hc => ?_)
      · replace h := h.2 hc
        refine a_aload_n C dX11_findWays_102 rfl 0 rfl rfl ?_
        refine g_11_15 C hE dX11_findWays_103 ho kw_5_237 rfl ?_
        have k103 : ms_is E (ms_at E o 15) 18 := ms_wt hE ho rfl (by decide)
        have n103 : ms_N E (ms_at E o 15) = 10 := ms_wl hE ho (by decide) (by decide) rfl
        refine a_iload C dX11_findWays_106 4 rfl rfl ?_
        obtain ⟨q108, h⟩ := h
        refine a_aldI C dX11_findWays_108 k103 (by decide) n103 q108 (hE.2.2 _ _ _ k103 (by decide) (by decide) (ms_in n103 q108)).1 rfl ?_
        have k108 : ms_is E (ms_at E (ms_at E o 15) (Int32.toNatClampNeg v75)) 13 := (hE.2.2 _ _ _ k103 (by decide) (by decide) (ms_in n103 q108)).2.1
        have n108 : ms_N E (ms_at E (ms_at E o 15) (Int32.toNatClampNeg v75)) = 10 := (hE.2.2 _ _ _ k103 (by decide) (by decide) (ms_in n103 q108)).2.2
        refine a_iload C dX11_findWays_109 5 rfl rfl ?_
        refine a_aload_n C dX11_findWays_111 rfl 0 rfl rfl ?_
        refine g_11_15 C hE dX11_findWays_112 ho kw_5_237 rfl ?_
        refine a_iload C dX11_findWays_115 4 rfl rfl ?_
        obtain ⟨q117, h⟩ := h
        refine a_aldI C dX11_findWays_117 k103 (by decide) n103 q117 (hE.2.2 _ _ _ k103 (by decide) (by decide) (ms_in n103 q117)).1 rfl ?_
        have k117 : ms_is E (ms_at E (ms_at E o 15) (Int32.toNatClampNeg v75)) 13 := (hE.2.2 _ _ _ k103 (by decide) (by decide) (ms_in n103 q117)).2.1
        have n117 : ms_N E (ms_at E (ms_at E o 15) (Int32.toNatClampNeg v75)) = 10 := (hE.2.2 _ _ _ k103 (by decide) (by decide) (ms_in n103 q117)).2.2
        refine a_iload C dX11_findWays_118 5 rfl rfl ?_
        obtain ⟨q120, h⟩ := h
        refine a_iald C dX11_findWays_120 k117 n117 q120 rfl ?_
        refine a_aload_n C dX11_findWays_121 rfl 0 rfl rfl ?_
        refine g_11_8 C hE dX11_findWays_122 ho kw_5_230 rfl ?_
        refine a_iload_n C dX11_findWays_125 rfl 3 rfl rfl ?_
        refine a_iconst (v := 2) C dX11_findWays_126 (by decide) rfl ?_
        refine a_iadd C dX11_findWays_127 rfl ?_
        obtain ⟨q128, h⟩ := h
        refine a_iald C dX11_findWays_128 k56 n56 q128 rfl ?_
        refine a_callSI C (c_X11_min l G cy L E hE u65 (ms_I u65 (ms_at E (ms_at E o 15) (Int32.toNatClampNeg v75)) (Int32.toNatClampNeg v85)) (ms_I u65 (ms_at E o 8) (Int32.toNatClampNeg (r65 + 2)))  _ h) kw_6_136 kw_6_137 kw_1_12 kw_6_138 rfl rfl pd_X11_min ⟨(Nat.le_of_ble_eq_true rfl), (Nat.le_of_ble_eq_true rfl)⟩ dX11_findWays_129 rfl (Nat.le_of_ble_eq_true rfl) ⟨(Nat.le_of_ble_eq_true rfl), (Nat.le_of_ble_eq_true rfl)⟩ rfl (fun r129 u129 h => ?_)
        obtain ⟨q132, h⟩ := h
        refine a_iast C dX11_findWays_132 k117 n117 q132 rfl ?_
        refine a_nmU (fun w132 e132 => ?_)
        replace h := h w132 e132
        refine a_aload_n C dX11_findWays_133 rfl 0 rfl rfl ?_
        refine g_11_15 C hE dX11_findWays_134 ho kw_5_237 rfl ?_
        refine a_iload C dX11_findWays_137 5 rfl rfl ?_
        obtain ⟨q139, h⟩ := h
        refine a_aldI C dX11_findWays_139 k103 (by decide) n103 q139 (hE.2.2 _ _ _ k103 (by decide) (by decide) (ms_in n103 q139)).1 rfl ?_
        have k139 : ms_is E (ms_at E (ms_at E o 15) (Int32.toNatClampNeg v85)) 13 := (hE.2.2 _ _ _ k103 (by decide) (by decide) (ms_in n103 q139)).2.1
        have n139 : ms_N E (ms_at E (ms_at E o 15) (Int32.toNatClampNeg v85)) = 10 := (hE.2.2 _ _ _ k103 (by decide) (by decide) (ms_in n103 q139)).2.2
        refine a_iload C dX11_findWays_140 4 rfl rfl ?_
        refine a_aload_n C dX11_findWays_142 rfl 0 rfl rfl ?_
        refine g_11_15 C hE dX11_findWays_143 ho kw_5_237 rfl ?_
        refine a_iload C dX11_findWays_146 4 rfl rfl ?_
        obtain ⟨q148, h⟩ := h
        refine a_aldI C dX11_findWays_148 k103 (by decide) n103 q148 (hE.2.2 _ _ _ k103 (by decide) (by decide) (ms_in n103 q148)).1 rfl ?_
        have k148 : ms_is E (ms_at E (ms_at E o 15) (Int32.toNatClampNeg v75)) 13 := (hE.2.2 _ _ _ k103 (by decide) (by decide) (ms_in n103 q148)).2.1
        have n148 : ms_N E (ms_at E (ms_at E o 15) (Int32.toNatClampNeg v75)) = 10 := (hE.2.2 _ _ _ k103 (by decide) (by decide) (ms_in n103 q148)).2.2
        refine a_iload C dX11_findWays_149 5 rfl rfl ?_
        obtain ⟨q151, h⟩ := h
        refine a_iald C dX11_findWays_151 k148 n148 q151 rfl ?_
        obtain ⟨q152, h⟩ := h
        refine a_iast C dX11_findWays_152 k139 n139 q152 rfl ?_
        refine a_nmU (fun w152 e152 => ?_)
        replace h := h w152 e152
        refine a_sub (lv' := [(0, .ref (L o)), (1, .int x1), (2, .int x2)]) [0, 1, 2] rfl ?_
        exact c_X11_findWays_153 C hr hlocks hE ho ih w152 x1 x2  h
      · replace h := h.1 hc
        refine a_goto (tgt := 153) C dX11_findWays_99 (by decide) ?_
        refine a_sub (lv' := [(0, .ref (L o)), (1, .int x1), (2, .int x2)]) [0, 1, 2] rfl ?_
        exact c_X11_findWays_153 C hr hlocks hE ho ih u65 x1 x2  h
def wp_X11_findWays_39 (E : ms_En) (o : Nat) (post : ms_St → Prop) (k9 : ms_St → Int32 → Int32 → Prop) (k16 : ms_St → Int32 → Int32 → Int32 → Prop) (u : ms_St) (x1 : Int32) (x2 : Int32) (x3 : Int32) (z0 : Int32) (z1 : Int32) (z2 : Nat) : Prop := vp_in z1 10 ∧ (k16 (ms_sI u z2 (Int32.toNatClampNeg z1) z0) x1 x2 (x3 + 1))
set_option maxHeartbeats 4000000 in
set_option maxRecDepth 100000 in
theorem c_X11_findWays_39 {p : Program} {l : Launch} {e : Env} {s : State} {m : MethodId} {args : Array Value} {below : List Frame} {meth : Method} {c : Code} {G : va_G} {cy : Nat → ClassId} {A : Nat → Prop} {L : Nat → Nat} {E : ms_En} (C : ms_Cx p m c cX11_findWays 6 s args (Cond.code ⟨"CensusWalkModel", "findWays", "()V"⟩ prog_13_method_30_code 6 none) "CensusWalkModel" G cy A) (hr : meth.sig.returnType = none) (hlocks : meth.locks = false) (hE : ms_WT E) {o : Nat} {post : ms_St → Prop} {k9 : ms_St → Int32 → Int32 → Prop} {k16 : ms_St → Int32 → Int32 → Int32 → Prop} (ho : ms_is E o 11) (hk9 : ∀ (u : ms_St) (x1 : Int32) (x2 : Int32), k9 u x1 x2 → ms_At p l e ({ frames := 1, cells := 0, slots := 0, locals := 21 } : Room) s m args below meth c 6 G cy A L 0 0 (ms_QV below args s G cy L E A post 0 0) E u 9 [(0, .ref (L o)), (1, .int x1), (2, .int x2)] []) (hk16 : ∀ (u : ms_St) (x1 : Int32) (x2 : Int32) (x3 : Int32), k16 u x1 x2 x3 → ms_At p l e ({ frames := 1, cells := 0, slots := 0, locals := 21 } : Room) s m args below meth c 6 G cy A L 0 0 (ms_QV below args s G cy L E A post 0 0) E u 16 [(0, .ref (L o)), (1, .int x1), (2, .int x2), (3, .int x3)] []) (u : ms_St) (x1 : Int32) (x2 : Int32) (x3 : Int32) (z0 : Int32) (z1 : Int32) (z2 : Nat) (k_z2 : ms_is E z2 13) (n_z2 : ms_N E z2 = 10) (h : wp_X11_findWays_39 E o post k9 k16 u x1 x2 x3 z0 z1 z2) : ms_At p l e ({ frames := 1, cells := 0, slots := 0, locals := 21 } : Room) s m args below meth c 6 G cy A L 0 0 (ms_QV below args s G cy L E A post 0 0) E u 39 [(0, .ref (L o)), (1, .int x1), (2, .int x2), (3, .int x3)] [.int z0, .int z1, .ref (L z2)] := by
  unfold wp_X11_findWays_39 at h
  obtain ⟨q39, h⟩ := h
  refine a_iast C dX11_findWays_39 k_z2 n_z2 q39 rfl ?_
  refine a_iinc (lv' := [(0, .ref (L o)), (1, .int x1), (2, .int x2), (3, .int (x3 + 1))]) (v := (x3 + 1)) C dX11_findWays_40 3 rfl (congrArg (fun z => x3 + z) (by decide)) (by decide) [1, 2, 3, 0] rfl rfl ?_
  refine a_goto (tgt := 16) C dX11_findWays_43 (by decide) ?_
  exact hk16 (ms_sI u z2 (Int32.toNatClampNeg z1) z0) x1 x2 (x3 + 1)  h
def wp_X11_findWays_16 (E : ms_En) (o : Nat) (post : ms_St → Prop) (k9 : ms_St → Int32 → Int32 → Prop) : Nat → ms_St → Int32 → Int32 → Int32 → Prop
  | 0 => fun _ _ _ _ => False
  | n + 1 => fun u x1 x2 x3 => (x1 ≤ x3 → k9 u x1 (x2 + 1)) ∧ (¬ x1 ≤ x3 → vp_in x2 10 ∧ ((x2 = x3 → wp_X11_findWays_39 E o post k9 (wp_X11_findWays_16 E o post k9 n) u x1 x2 x3 0 x3 (ms_at E (ms_at E o 15) (Int32.toNatClampNeg x2))) ∧ (¬ x2 = x3 → wp_X11_findWays_39 E o post k9 (wp_X11_findWays_16 E o post k9 n) u x1 x2 x3 1000000 x3 (ms_at E (ms_at E o 15) (Int32.toNatClampNeg x2)))))
set_option maxHeartbeats 4000000 in
set_option maxRecDepth 100000 in
theorem c_X11_findWays_16 {p : Program} {l : Launch} {e : Env} {s : State} {m : MethodId} {args : Array Value} {below : List Frame} {meth : Method} {c : Code} {G : va_G} {cy : Nat → ClassId} {A : Nat → Prop} {L : Nat → Nat} {E : ms_En} (C : ms_Cx p m c cX11_findWays 6 s args (Cond.code ⟨"CensusWalkModel", "findWays", "()V"⟩ prog_13_method_30_code 6 none) "CensusWalkModel" G cy A) (hr : meth.sig.returnType = none) (hlocks : meth.locks = false) (hE : ms_WT E) {o : Nat} {post : ms_St → Prop} {k9 : ms_St → Int32 → Int32 → Prop} (ho : ms_is E o 11) (hk9 : ∀ (u : ms_St) (x1 : Int32) (x2 : Int32), k9 u x1 x2 → ms_At p l e ({ frames := 1, cells := 0, slots := 0, locals := 21 } : Room) s m args below meth c 6 G cy A L 0 0 (ms_QV below args s G cy L E A post 0 0) E u 9 [(0, .ref (L o)), (1, .int x1), (2, .int x2)] []) : ∀ (n : Nat) (u : ms_St) (x1 : Int32) (x2 : Int32) (x3 : Int32), wp_X11_findWays_16 E o post k9 n u x1 x2 x3 → ms_At p l e ({ frames := 1, cells := 0, slots := 0, locals := 21 } : Room) s m args below meth c 6 G cy A L 0 0 (ms_QV below args s G cy L E A post 0 0) E u 16 [(0, .ref (L o)), (1, .int x1), (2, .int x2), (3, .int x3)] [] := by
  intro n
  induction n with
  | zero =>
    intro u x1 x2 x3  h
    exact absurd h id
  | succ n ih =>
    intro u x1 x2 x3  h
    unfold wp_X11_findWays_16 at h
    refine a_iload_n C dX11_findWays_16 rfl 3 rfl rfl ?_
    refine a_iload_n C dX11_findWays_17 rfl 1 rfl rfl ?_
    refine a_icmp_ge (tgt := 46) C dX11_findWays_18 (by decide) rfl (fun hc => ?_) (fun hc => ?_)
    · replace h := h.1 hc
      refine a_iinc (lv' := [(0, .ref (L o)), (1, .int x1), (2, .int (x2 + 1)), (3, .int x3)]) (v := (x2 + 1)) C dX11_findWays_46 2 rfl (congrArg (fun z => x2 + z) (by decide)) (by decide) [1, 2, 0, 3] rfl rfl ?_
      refine a_goto (tgt := 9) C dX11_findWays_49 (by decide) ?_
      refine a_sub (lv' := [(0, .ref (L o)), (1, .int x1), (2, .int (x2 + 1))]) [0, 1, 2] rfl ?_
      exact hk9 u x1 (x2 + 1)  h
    · replace h := h.2 hc
      refine a_aload_n C dX11_findWays_21 rfl 0 rfl rfl ?_
      refine g_11_15 C hE dX11_findWays_22 ho kw_5_237 rfl ?_
      have k22 : ms_is E (ms_at E o 15) 18 := ms_wt hE ho rfl (by decide)
      have n22 : ms_N E (ms_at E o 15) = 10 := ms_wl hE ho (by decide) (by decide) rfl
      refine a_iload_n C dX11_findWays_25 rfl 2 rfl rfl ?_
      obtain ⟨q26, h⟩ := h
      refine a_aldI C dX11_findWays_26 k22 (by decide) n22 q26 (hE.2.2 _ _ _ k22 (by decide) (by decide) (ms_in n22 q26)).1 rfl ?_
      have k26 : ms_is E (ms_at E (ms_at E o 15) (Int32.toNatClampNeg x2)) 13 := (hE.2.2 _ _ _ k22 (by decide) (by decide) (ms_in n22 q26)).2.1
      have n26 : ms_N E (ms_at E (ms_at E o 15) (Int32.toNatClampNeg x2)) = 10 := (hE.2.2 _ _ _ k22 (by decide) (by decide) (ms_in n22 q26)).2.2
      refine a_iload_n C dX11_findWays_27 rfl 3 rfl rfl ?_
      refine a_iload_n C dX11_findWays_28 rfl 2 rfl rfl ?_
      refine a_iload_n C dX11_findWays_29 rfl 3 rfl rfl ?_
      refine a_icmp_ne (tgt := 37) C dX11_findWays_30 (by decide) rfl (fun hc => ?_) (fun hc => ?_)
      · replace h := h.2 hc
        refine a_ldc (v := 1000000) C dX11_findWays_37 kw_6_135 rfl ?_
        exact c_X11_findWays_39 C hr hlocks hE ho hk9 ih u x1 x2 x3 1000000 x3 (ms_at E (ms_at E o 15) (Int32.toNatClampNeg x2)) k26 n26 h
      · replace h := h.1 hc
        refine a_iconst (v := 0) C dX11_findWays_33 (by decide) rfl ?_
        refine a_goto (tgt := 39) C dX11_findWays_34 (by decide) ?_
        exact c_X11_findWays_39 C hr hlocks hE ho hk9 ih u x1 x2 x3 0 x3 (ms_at E (ms_at E o 15) (Int32.toNatClampNeg x2)) k26 n26 h
def wp_X11_findWays_9 (E : ms_En) (o : Nat) (post : ms_St → Prop)  : Nat → ms_St → Int32 → Int32 → Prop
  | 0 => fun _ _ _ => False
  | n + 1 => fun u x1 x2 => (x1 ≤ x2 → ∃ n54, wp_X11_findWays_54 E o post n54 u x1 0) ∧ (¬ x1 ≤ x2 → ∃ n16, wp_X11_findWays_16 E o post (wp_X11_findWays_9 E o post n) n16 u x1 x2 0)
set_option maxHeartbeats 4000000 in
set_option maxRecDepth 100000 in
theorem c_X11_findWays_9 {p : Program} {l : Launch} {e : Env} {s : State} {m : MethodId} {args : Array Value} {below : List Frame} {meth : Method} {c : Code} {G : va_G} {cy : Nat → ClassId} {A : Nat → Prop} {L : Nat → Nat} {E : ms_En} (C : ms_Cx p m c cX11_findWays 6 s args (Cond.code ⟨"CensusWalkModel", "findWays", "()V"⟩ prog_13_method_30_code 6 none) "CensusWalkModel" G cy A) (hr : meth.sig.returnType = none) (hlocks : meth.locks = false) (hE : ms_WT E) {o : Nat} {post : ms_St → Prop}  (ho : ms_is E o 11)  : ∀ (n : Nat) (u : ms_St) (x1 : Int32) (x2 : Int32), wp_X11_findWays_9 E o post n u x1 x2 → ms_At p l e ({ frames := 1, cells := 0, slots := 0, locals := 21 } : Room) s m args below meth c 6 G cy A L 0 0 (ms_QV below args s G cy L E A post 0 0) E u 9 [(0, .ref (L o)), (1, .int x1), (2, .int x2)] [] := by
  intro n
  induction n with
  | zero =>
    intro u x1 x2  h
    exact absurd h id
  | succ n ih =>
    intro u x1 x2  h
    unfold wp_X11_findWays_9 at h
    refine a_iload_n C dX11_findWays_9 rfl 2 rfl rfl ?_
    refine a_iload_n C dX11_findWays_10 rfl 1 rfl rfl ?_
    refine a_icmp_ge (tgt := 52) C dX11_findWays_11 (by decide) rfl (fun hc => ?_) (fun hc => ?_)
    · replace h := h.1 hc
      refine a_iconst (v := 0) C dX11_findWays_52 (by decide) rfl ?_
      refine a_istore_n (lv' := [(0, .ref (L o)), (1, .int x1), (2, .int 0)]) C dX11_findWays_53 rfl (by decide) [1, 2, 0] rfl rfl ?_
      obtain ⟨n9, h⟩ := h
      exact c_X11_findWays_54 C hr hlocks hE ho  n9 u x1 0  h
    · replace h := h.2 hc
      refine a_iconst (v := 0) C dX11_findWays_14 (by decide) rfl ?_
      refine a_istore_n (lv' := [(0, .ref (L o)), (1, .int x1), (2, .int x2), (3, .int 0)]) C dX11_findWays_15 rfl (by decide) [1, 2, 3, 0] rfl rfl ?_
      obtain ⟨n9, h⟩ := h
      exact c_X11_findWays_16 C hr hlocks hE ho ih n9 u x1 x2 0  h
def wp_X11_findWays (E : ms_En) (u : ms_St) (o : Nat) (post : ms_St → Prop) : Prop := vp_in 0 1613 ∧ (∀ v6 : Int32, v6 = (ms_I u (ms_at E o 8) (Int32.toNatClampNeg 0)) → (∃ n9, wp_X11_findWays_9 E o post n9 u v6 0))
set_option maxHeartbeats 4000000 in
set_option maxRecDepth 100000 in
theorem c_X11_findWays (l : Launch) (G : va_G) (cy : Nat → ClassId) (L : Nat → Nat) (E : ms_En) (hE : ms_WT E) (u : ms_St) (o : Nat) (ho : ms_is E o 11) (post : ms_St → Prop) (h : wp_X11_findWays E u o post) : ms_MetV l ⟨"CensusWalkModel", "findWays", "()V"⟩ (Cond.code ⟨"CensusWalkModel", "findWays", "()V"⟩ prog_13_method_30_code 6 none :: lw_g) ({ frames := 1, cells := 0, slots := 0, locals := 21 } : Room) G cy L E [.ref (L o)] u post 0 0 := by
  refine ms_enterV (lv := [(0, .ref (L o))]) (by decide) (Nat.le_of_ble_eq_true rfl) rfl ?_
  intro p e s m args below meth c A C hr hlocks
  unfold wp_X11_findWays at h
  refine a_aload_n C dX11_findWays_0 rfl 0 rfl rfl ?_
  refine g_11_8 C hE dX11_findWays_1 ho kw_5_230 rfl ?_
  have k1 : ms_is E (ms_at E o 8) 13 := ms_wt hE ho rfl (by decide)
  have n1 : ms_N E (ms_at E o 8) = 1613 := ms_wl hE ho (by decide) (by decide) rfl
  refine a_iconst (v := 0) C dX11_findWays_4 (by decide) rfl ?_
  obtain ⟨q5, h⟩ := h
  refine a_iald C dX11_findWays_5 k1 n1 q5 rfl ?_
  refine a_nmI (fun v6 e6 => ?_)
  replace h := h v6 e6
  refine a_istore_n (lv' := [(0, .ref (L o)), (1, .int v6)]) C dX11_findWays_6 rfl (by decide) [1, 0] rfl rfl ?_
  refine a_iconst (v := 0) C dX11_findWays_7 (by decide) rfl ?_
  refine a_istore_n (lv' := [(0, .ref (L o)), (1, .int v6), (2, .int 0)]) C dX11_findWays_8 rfl (by decide) [1, 2, 0] rfl rfl ?_
  obtain ⟨n9, h⟩ := h
  exact c_X11_findWays_9 C hr hlocks hE ho  n9 u v6 0  h

/-! CensusWalkModel.streetAt(I)I -/
theorem pd_X11_streetAt : (⟨"CensusWalkModel", "streetAt", "(I)I"⟩ : MethodName).cls = "CensusWalkModel" ∧ (⟨"CensusWalkModel", "streetAt", "(I)I"⟩ : MethodName).cls ≠ "java/lang/invoke/MethodHandle" ∧ (⟨"CensusWalkModel", "streetAt", "(I)I"⟩ : MethodName).cls ≠ "java/lang/invoke/VarHandle" ∧ (parseMethodDescriptor (⟨"CensusWalkModel", "streetAt", "(I)I"⟩ : MethodName).desc).map (fun d => d.parameters.length) = some 1 := by decide +kernel
def wp_X11_streetAt (E : ms_En) (u : ms_St) (o : Nat) (a1 : Int32) (post : Int32 → ms_St → Prop) : Prop := wp_X11_house E u a1 (fun r5 u5 => vp_in r5 1613 ∧ (wp_X11_street E u5 (ms_I u5 (ms_at E o 8) (Int32.toNatClampNeg r5)) (fun r9 u9 => post r9 u9)))
set_option maxHeartbeats 4000000 in
set_option maxRecDepth 100000 in
theorem c_X11_streetAt (l : Launch) (G : va_G) (cy : Nat → ClassId) (L : Nat → Nat) (E : ms_En) (hE : ms_WT E) (u : ms_St) (o : Nat) (a1 : Int32) (ho : ms_is E o 11) (post : Int32 → ms_St → Prop) (h : wp_X11_streetAt E u o a1 post) : ms_MetI l ⟨"CensusWalkModel", "streetAt", "(I)I"⟩ (Cond.code ⟨"CensusWalkModel", "streetAt", "(I)I"⟩ prog_13_method_31_code 2 (some .int) :: lw_g) ({ frames := 1, cells := 0, slots := 0, locals := 20 } : Room) G cy L E [.ref (L o), .int a1] u post 0 0 := by
  refine ms_enterI (lv := [(0, .ref (L o)), (1, .int a1)]) (by decide) (Nat.le_of_ble_eq_true rfl) rfl ?_
  intro p e s m args below meth c A C hr hlocks
  unfold wp_X11_streetAt at h
  refine a_aload_n C dX11_streetAt_0 rfl 0 rfl rfl ?_
  refine g_11_8 C hE dX11_streetAt_1 ho kw_5_230 rfl ?_
  have k1 : ms_is E (ms_at E o 8) 13 := ms_wt hE ho rfl (by decide)
  have n1 : ms_N E (ms_at E o 8) = 1613 := ms_wl hE ho (by decide) (by decide) rfl
  refine a_iload_n C dX11_streetAt_4 rfl 1 rfl rfl ?_
  refine a_callSI C (c_X11_house l G cy L E hE u a1  _ h) kw_6_160 kw_6_161 kw_1_12 kw_6_162 rfl rfl pd_X11_house ⟨(Nat.le_of_ble_eq_true rfl), (Nat.le_of_ble_eq_true rfl)⟩ dX11_streetAt_5 rfl (Nat.le_of_ble_eq_true rfl) ⟨(Nat.le_of_ble_eq_true rfl), (Nat.le_of_ble_eq_true rfl)⟩ rfl (fun r5 u5 h => ?_)
  obtain ⟨q8, h⟩ := h
  refine a_iald C dX11_streetAt_8 k1 n1 q8 rfl ?_
  refine a_callSI C (c_X11_street l G cy L E hE u5 (ms_I u5 (ms_at E o 8) (Int32.toNatClampNeg r5))  _ h) kw_6_152 kw_6_153 kw_1_12 kw_6_154 rfl rfl pd_X11_street ⟨(Nat.le_of_ble_eq_true rfl), (Nat.le_of_ble_eq_true rfl)⟩ dX11_streetAt_9 rfl (Nat.le_of_ble_eq_true rfl) ⟨(Nat.le_of_ble_eq_true rfl), (Nat.le_of_ble_eq_true rfl)⟩ rfl (fun r9 u9 h => ?_)
  exact a_iret C dX11_streetAt_12 hr hlocks (Nat.le_of_ble_eq_true rfl) (Nat.le_of_ble_eq_true rfl) h

/-! CensusWalkModel.toStart(I)I -/
theorem pd_X11_toStart : (⟨"CensusWalkModel", "toStart", "(I)I"⟩ : MethodName).cls = "CensusWalkModel" ∧ (⟨"CensusWalkModel", "toStart", "(I)I"⟩ : MethodName).cls ≠ "java/lang/invoke/MethodHandle" ∧ (⟨"CensusWalkModel", "toStart", "(I)I"⟩ : MethodName).cls ≠ "java/lang/invoke/VarHandle" ∧ (parseMethodDescriptor (⟨"CensusWalkModel", "toStart", "(I)I"⟩ : MethodName).desc).map (fun d => d.parameters.length) = some 1 := by decide +kernel
def wp_X11_toStart (E : ms_En) (u : ms_St) (o : Nat) (a1 : Int32) (post : Int32 → ms_St → Prop) : Prop := wp_X11_house E u a1 (fun r5 u5 => vp_in (r5 + 1) 1613 ∧ (post (ms_I u5 (ms_at E o 8) (Int32.toNatClampNeg (r5 + 1))) u5))
set_option maxHeartbeats 4000000 in
set_option maxRecDepth 100000 in
theorem c_X11_toStart (l : Launch) (G : va_G) (cy : Nat → ClassId) (L : Nat → Nat) (E : ms_En) (hE : ms_WT E) (u : ms_St) (o : Nat) (a1 : Int32) (ho : ms_is E o 11) (post : Int32 → ms_St → Prop) (h : wp_X11_toStart E u o a1 post) : ms_MetI l ⟨"CensusWalkModel", "toStart", "(I)I"⟩ (Cond.code ⟨"CensusWalkModel", "toStart", "(I)I"⟩ prog_13_method_32_code 2 (some .int) :: lw_g) ({ frames := 1, cells := 0, slots := 0, locals := 20 } : Room) G cy L E [.ref (L o), .int a1] u post 0 0 := by
  refine ms_enterI (lv := [(0, .ref (L o)), (1, .int a1)]) (by decide) (Nat.le_of_ble_eq_true rfl) rfl ?_
  intro p e s m args below meth c A C hr hlocks
  unfold wp_X11_toStart at h
  refine a_aload_n C dX11_toStart_0 rfl 0 rfl rfl ?_
  refine g_11_8 C hE dX11_toStart_1 ho kw_5_230 rfl ?_
  have k1 : ms_is E (ms_at E o 8) 13 := ms_wt hE ho rfl (by decide)
  have n1 : ms_N E (ms_at E o 8) = 1613 := ms_wl hE ho (by decide) (by decide) rfl
  refine a_iload_n C dX11_toStart_4 rfl 1 rfl rfl ?_
  refine a_callSI C (c_X11_house l G cy L E hE u a1  _ h) kw_6_160 kw_6_161 kw_1_12 kw_6_162 rfl rfl pd_X11_house ⟨(Nat.le_of_ble_eq_true rfl), (Nat.le_of_ble_eq_true rfl)⟩ dX11_toStart_5 rfl (Nat.le_of_ble_eq_true rfl) ⟨(Nat.le_of_ble_eq_true rfl), (Nat.le_of_ble_eq_true rfl)⟩ rfl (fun r5 u5 h => ?_)
  refine a_iconst (v := 1) C dX11_toStart_8 (by decide) rfl ?_
  refine a_iadd C dX11_toStart_9 rfl ?_
  obtain ⟨q10, h⟩ := h
  refine a_iald C dX11_toStart_10 k1 n1 q10 rfl ?_
  exact a_iret C dX11_toStart_11 hr hlocks (Nat.le_of_ble_eq_true rfl) (Nat.le_of_ble_eq_true rfl) h

/-! CensusWalkModel.toEnd(I)I -/
theorem pd_X11_toEnd : (⟨"CensusWalkModel", "toEnd", "(I)I"⟩ : MethodName).cls = "CensusWalkModel" ∧ (⟨"CensusWalkModel", "toEnd", "(I)I"⟩ : MethodName).cls ≠ "java/lang/invoke/MethodHandle" ∧ (⟨"CensusWalkModel", "toEnd", "(I)I"⟩ : MethodName).cls ≠ "java/lang/invoke/VarHandle" ∧ (parseMethodDescriptor (⟨"CensusWalkModel", "toEnd", "(I)I"⟩ : MethodName).desc).map (fun d => d.parameters.length) = some 1 := by decide +kernel
def wp_X11_toEnd (E : ms_En) (u : ms_St) (o : Nat) (a1 : Int32) (post : Int32 → ms_St → Prop) : Prop := wp_X11_streetAt E u o a1 (fun r6 u6 => vp_in (r6 + 2) 1613 ∧ (wp_X11_toStart E u6 o a1 (fun r14 u14 => post ((ms_I u6 (ms_at E o 8) (Int32.toNatClampNeg (r6 + 2))) - r14) u14)))
set_option maxHeartbeats 4000000 in
set_option maxRecDepth 100000 in
theorem c_X11_toEnd (l : Launch) (G : va_G) (cy : Nat → ClassId) (L : Nat → Nat) (E : ms_En) (hE : ms_WT E) (u : ms_St) (o : Nat) (a1 : Int32) (ho : ms_is E o 11) (post : Int32 → ms_St → Prop) (h : wp_X11_toEnd E u o a1 post) : ms_MetI l ⟨"CensusWalkModel", "toEnd", "(I)I"⟩ (Cond.code ⟨"CensusWalkModel", "toEnd", "(I)I"⟩ prog_13_method_33_code 2 (some .int) :: lw_g) ({ frames := 2, cells := 0, slots := 0, locals := 41 } : Room) G cy L E [.ref (L o), .int a1] u post 0 0 := by
  refine ms_enterI (lv := [(0, .ref (L o)), (1, .int a1)]) (by decide) (Nat.le_of_ble_eq_true rfl) rfl ?_
  intro p e s m args below meth c A C hr hlocks
  unfold wp_X11_toEnd at h
  refine a_aload_n C dX11_toEnd_0 rfl 0 rfl rfl ?_
  refine g_11_8 C hE dX11_toEnd_1 ho kw_5_230 rfl ?_
  have k1 : ms_is E (ms_at E o 8) 13 := ms_wt hE ho rfl (by decide)
  have n1 : ms_N E (ms_at E o 8) = 1613 := ms_wl hE ho (by decide) (by decide) rfl
  refine a_aload_n C dX11_toEnd_4 rfl 0 rfl rfl ?_
  refine a_iload_n C dX11_toEnd_5 rfl 1 rfl rfl ?_
  refine a_callVI C (c_X11_streetAt l G cy L E hE u o a1 ho _ h) ho rfl (by decide) kw_7_4 kw_7_6 kp_65 kw_1_12 kw_7_7 rfl rfl pd_X11_streetAt ⟨(Nat.le_of_ble_eq_true rfl), (Nat.le_of_ble_eq_true rfl)⟩ dX11_toEnd_6 rfl (Nat.le_of_ble_eq_true rfl) ⟨(Nat.le_of_ble_eq_true rfl), (Nat.le_of_ble_eq_true rfl)⟩ rfl (fun r6 u6 h => ?_)
  refine a_iconst (v := 2) C dX11_toEnd_9 (by decide) rfl ?_
  refine a_iadd C dX11_toEnd_10 rfl ?_
  obtain ⟨q11, h⟩ := h
  refine a_iald C dX11_toEnd_11 k1 n1 q11 rfl ?_
  refine a_aload_n C dX11_toEnd_12 rfl 0 rfl rfl ?_
  refine a_iload_n C dX11_toEnd_13 rfl 1 rfl rfl ?_
  refine a_callVI C (c_X11_toStart l G cy L E hE u6 o a1 ho _ h) ho rfl (by decide) kw_7_8 kw_7_10 kp_66 kw_1_12 kw_7_11 rfl rfl pd_X11_toStart ⟨(Nat.le_of_ble_eq_true rfl), (Nat.le_of_ble_eq_true rfl)⟩ dX11_toEnd_14 rfl (Nat.le_of_ble_eq_true rfl) ⟨(Nat.le_of_ble_eq_true rfl), (Nat.le_of_ble_eq_true rfl)⟩ rfl (fun r14 u14 h => ?_)
  refine a_isub C dX11_toEnd_17 rfl ?_
  exact a_iret C dX11_toEnd_18 hr hlocks (Nat.le_of_ble_eq_true rfl) (Nat.le_of_ble_eq_true rfl) h

/-! CensusWalkModel.isShut(I)Z -/
theorem pd_X11_isShut : (⟨"CensusWalkModel", "isShut", "(I)Z"⟩ : MethodName).cls = "CensusWalkModel" ∧ (⟨"CensusWalkModel", "isShut", "(I)Z"⟩ : MethodName).cls ≠ "java/lang/invoke/MethodHandle" ∧ (⟨"CensusWalkModel", "isShut", "(I)Z"⟩ : MethodName).cls ≠ "java/lang/invoke/VarHandle" ∧ (parseMethodDescriptor (⟨"CensusWalkModel", "isShut", "(I)Z"⟩ : MethodName).desc).map (fun d => d.parameters.length) = some 1 := by decide +kernel
def wp_X11_isShut_21 (E : ms_En) (o : Nat) (a1 : Int32) (post : Int32 → ms_St → Prop)  (u : ms_St) (z0 : Int32) : Prop := (z0 = 0 ∨ z0 = 1) ∧ (post z0 u)
set_option maxHeartbeats 4000000 in
set_option maxRecDepth 100000 in
theorem c_X11_isShut_21 {p : Program} {l : Launch} {e : Env} {s : State} {m : MethodId} {args : Array Value} {below : List Frame} {meth : Method} {c : Code} {G : va_G} {cy : Nat → ClassId} {A : Nat → Prop} {L : Nat → Nat} {E : ms_En} (C : ms_Cx p m c cX11_isShut 2 s args (Cond.code ⟨"CensusWalkModel", "isShut", "(I)Z"⟩ prog_13_method_34_code 2 (some .boolean)) "CensusWalkModel" G cy A) (hr : meth.sig.returnType = (some .boolean)) (hlocks : meth.locks = false) (hE : ms_WT E) {o : Nat} {a1 : Int32} {post : Int32 → ms_St → Prop}  (ho : ms_is E o 11)  (u : ms_St) (z0 : Int32)  (h : wp_X11_isShut_21 E o a1 post u z0) : ms_At p l e ({ frames := 2, cells := 0, slots := 0, locals := 41 } : Room) s m args below meth c 2 G cy A L 0 0 (ms_QI below args s G cy L E A post 0 0) E u 21 [] [.int z0] := by
  unfold wp_X11_isShut_21 at h
  obtain ⟨q21, h⟩ := h
  exact a_zret C dX11_isShut_21 hr hlocks (Nat.le_of_ble_eq_true rfl) (Nat.le_of_ble_eq_true rfl) (ms_nz q21) h
def wp_X11_isShut (E : ms_En) (u : ms_St) (o : Nat) (a1 : Int32) (post : Int32 → ms_St → Prop) : Prop := wp_X11_streetAt E u o a1 (fun r6 u6 => vp_in (r6 + 3) 1613 ∧ (((ms_I u6 (ms_at E o 8) (Int32.toNatClampNeg (r6 + 3))) = 1 → wp_X11_isShut_21 E o a1 post u6 1) ∧ (¬ (ms_I u6 (ms_at E o 8) (Int32.toNatClampNeg (r6 + 3))) = 1 → wp_X11_isShut_21 E o a1 post u6 0)))
set_option maxHeartbeats 4000000 in
set_option maxRecDepth 100000 in
theorem c_X11_isShut (l : Launch) (G : va_G) (cy : Nat → ClassId) (L : Nat → Nat) (E : ms_En) (hE : ms_WT E) (u : ms_St) (o : Nat) (a1 : Int32) (ho : ms_is E o 11) (post : Int32 → ms_St → Prop) (h : wp_X11_isShut E u o a1 post) : ms_MetI l ⟨"CensusWalkModel", "isShut", "(I)Z"⟩ (Cond.code ⟨"CensusWalkModel", "isShut", "(I)Z"⟩ prog_13_method_34_code 2 (some .boolean) :: lw_g) ({ frames := 2, cells := 0, slots := 0, locals := 41 } : Room) G cy L E [.ref (L o), .int a1] u post 0 0 := by
  refine ms_enterI (lv := [(0, .ref (L o)), (1, .int a1)]) (by decide) (Nat.le_of_ble_eq_true rfl) rfl ?_
  intro p e s m args below meth c A C hr hlocks
  unfold wp_X11_isShut at h
  refine a_aload_n C dX11_isShut_0 rfl 0 rfl rfl ?_
  refine g_11_8 C hE dX11_isShut_1 ho kw_5_230 rfl ?_
  have k1 : ms_is E (ms_at E o 8) 13 := ms_wt hE ho rfl (by decide)
  have n1 : ms_N E (ms_at E o 8) = 1613 := ms_wl hE ho (by decide) (by decide) rfl
  refine a_aload_n C dX11_isShut_4 rfl 0 rfl rfl ?_
  refine a_iload_n C dX11_isShut_5 rfl 1 rfl rfl ?_
  refine a_callVI C (c_X11_streetAt l G cy L E hE u o a1 ho _ h) ho rfl (by decide) kw_7_4 kw_7_6 kp_65 kw_1_12 kw_7_7 rfl rfl pd_X11_streetAt ⟨(Nat.le_of_ble_eq_true rfl), (Nat.le_of_ble_eq_true rfl)⟩ dX11_isShut_6 rfl (Nat.le_of_ble_eq_true rfl) ⟨(Nat.le_of_ble_eq_true rfl), (Nat.le_of_ble_eq_true rfl)⟩ rfl (fun r6 u6 h => ?_)
  refine a_iconst (v := 3) C dX11_isShut_9 (by decide) rfl ?_
  refine a_iadd C dX11_isShut_10 rfl ?_
  obtain ⟨q11, h⟩ := h
  refine a_iald C dX11_isShut_11 k1 n1 q11 rfl ?_
  refine a_iconst (v := 1) C dX11_isShut_12 (by decide) rfl ?_
  refine a_icmp_ne (tgt := 20) C dX11_isShut_13 (by decide) rfl (fun hc => ?_) (fun hc => ?_)
  · replace h := h.2 hc
    refine a_iconst (v := 0) C dX11_isShut_20 (by decide) rfl ?_
    refine a_sub (lv' := []) [] rfl ?_
    exact c_X11_isShut_21 C hr hlocks hE ho  u6 0  h
  · replace h := h.1 hc
    refine a_iconst (v := 1) C dX11_isShut_16 (by decide) rfl ?_
    refine a_goto (tgt := 21) C dX11_isShut_17 (by decide) ?_
    refine a_sub (lv' := []) [] rfl ?_
    exact c_X11_isShut_21 C hr hlocks hE ho  u6 1  h

/-! CensusWalkModel.fromCrossing(II)I -/
theorem pd_X11_fromCrossing : (⟨"CensusWalkModel", "fromCrossing", "(II)I"⟩ : MethodName).cls = "CensusWalkModel" ∧ (⟨"CensusWalkModel", "fromCrossing", "(II)I"⟩ : MethodName).cls ≠ "java/lang/invoke/MethodHandle" ∧ (⟨"CensusWalkModel", "fromCrossing", "(II)I"⟩ : MethodName).cls ≠ "java/lang/invoke/VarHandle" ∧ (parseMethodDescriptor (⟨"CensusWalkModel", "fromCrossing", "(II)I"⟩ : MethodName).desc).map (fun d => d.parameters.length) = some 2 := by decide +kernel
def wp_X11_fromCrossing (E : ms_En) (u : ms_St) (o : Nat) (a1 : Int32) (a2 : Int32) (post : Int32 → ms_St → Prop) : Prop := wp_X11_isShut E u o a2 (fun r2 u2 => (r2 = 0 → vp_in a1 10 ∧ (wp_X11_streetAt E u2 o a2 (fun r23 u23 => vp_in r23 1613 ∧ (vp_in (ms_I u23 (ms_at E o 8) (Int32.toNatClampNeg r23)) 10 ∧ (wp_X11_toStart E u23 o a2 (fun r30 u30 => vp_in a1 10 ∧ (wp_X11_streetAt E u30 o a2 (fun r46 u46 => vp_in (r46 + 1) 1613 ∧ (vp_in (ms_I u46 (ms_at E o 8) (Int32.toNatClampNeg (r46 + 1))) 10 ∧ (wp_X11_toEnd E u46 o a2 (fun r55 u55 => wp_X11_min E u55 ((ms_I u23 (ms_at E (ms_at E o 15) (Int32.toNatClampNeg a1)) (Int32.toNatClampNeg (ms_I u23 (ms_at E o 8) (Int32.toNatClampNeg r23)))) + r30) ((ms_I u46 (ms_at E (ms_at E o 15) (Int32.toNatClampNeg a1)) (Int32.toNatClampNeg (ms_I u46 (ms_at E o 8) (Int32.toNatClampNeg (r46 + 1))))) + r55) (fun r59 u59 => post r59 u59)))))))))))) ∧ (¬ r2 = 0 → post 1000000 u2))
set_option maxHeartbeats 4000000 in
set_option maxRecDepth 100000 in
theorem c_X11_fromCrossing (l : Launch) (G : va_G) (cy : Nat → ClassId) (L : Nat → Nat) (E : ms_En) (hE : ms_WT E) (u : ms_St) (o : Nat) (a1 : Int32) (a2 : Int32) (ho : ms_is E o 11) (post : Int32 → ms_St → Prop) (h : wp_X11_fromCrossing E u o a1 a2 post) : ms_MetI l ⟨"CensusWalkModel", "fromCrossing", "(II)I"⟩ (Cond.code ⟨"CensusWalkModel", "fromCrossing", "(II)I"⟩ prog_13_method_35_code 3 (some .int) :: lw_g) ({ frames := 3, cells := 0, slots := 0, locals := 62 } : Room) G cy L E [.ref (L o), .int a1, .int a2] u post 0 0 := by
  refine ms_enterI (lv := [(0, .ref (L o)), (1, .int a1), (2, .int a2)]) (by decide) (Nat.le_of_ble_eq_true rfl) rfl ?_
  intro p e s m args below meth c A C hr hlocks
  unfold wp_X11_fromCrossing at h
  refine a_aload_n C dX11_fromCrossing_0 rfl 0 rfl rfl ?_
  refine a_iload_n C dX11_fromCrossing_1 rfl 2 rfl rfl ?_
  refine a_callVI C (c_X11_isShut l G cy L E hE u o a2 ho _ h) ho rfl (by decide) kw_7_0 kw_7_2 kp_64 kw_1_12 kw_7_3 rfl rfl pd_X11_isShut ⟨(Nat.le_of_ble_eq_true rfl), (Nat.le_of_ble_eq_true rfl)⟩ dX11_fromCrossing_2 rfl (Nat.le_of_ble_eq_true rfl) ⟨(Nat.le_of_ble_eq_true rfl), (Nat.le_of_ble_eq_true rfl)⟩ rfl (fun r2 u2 h => ?_)
  refine a_if_eq (tgt := 11) C dX11_fromCrossing_5 (by decide) rfl (fun hc => ?_) (fun hc => ?_)
  · replace h := h.1 hc
    refine a_aload_n C dX11_fromCrossing_11 rfl 0 rfl rfl ?_
    refine g_11_15 C hE dX11_fromCrossing_12 ho kw_5_237 rfl ?_
    have k12 : ms_is E (ms_at E o 15) 18 := ms_wt hE ho rfl (by decide)
    have n12 : ms_N E (ms_at E o 15) = 10 := ms_wl hE ho (by decide) (by decide) rfl
    refine a_iload_n C dX11_fromCrossing_15 rfl 1 rfl rfl ?_
    obtain ⟨q16, h⟩ := h
    refine a_aldI C dX11_fromCrossing_16 k12 (by decide) n12 q16 (hE.2.2 _ _ _ k12 (by decide) (by decide) (ms_in n12 q16)).1 rfl ?_
    have k16 : ms_is E (ms_at E (ms_at E o 15) (Int32.toNatClampNeg a1)) 13 := (hE.2.2 _ _ _ k12 (by decide) (by decide) (ms_in n12 q16)).2.1
    have n16 : ms_N E (ms_at E (ms_at E o 15) (Int32.toNatClampNeg a1)) = 10 := (hE.2.2 _ _ _ k12 (by decide) (by decide) (ms_in n12 q16)).2.2
    refine a_aload_n C dX11_fromCrossing_17 rfl 0 rfl rfl ?_
    refine g_11_8 C hE dX11_fromCrossing_18 ho kw_5_230 rfl ?_
    have k18 : ms_is E (ms_at E o 8) 13 := ms_wt hE ho rfl (by decide)
    have n18 : ms_N E (ms_at E o 8) = 1613 := ms_wl hE ho (by decide) (by decide) rfl
    refine a_aload_n C dX11_fromCrossing_21 rfl 0 rfl rfl ?_
    refine a_iload_n C dX11_fromCrossing_22 rfl 2 rfl rfl ?_
    refine a_callVI C (c_X11_streetAt l G cy L E hE u2 o a2 ho _ h) ho rfl (by decide) kw_7_4 kw_7_6 kp_65 kw_1_12 kw_7_7 rfl rfl pd_X11_streetAt ⟨(Nat.le_of_ble_eq_true rfl), (Nat.le_of_ble_eq_true rfl)⟩ dX11_fromCrossing_23 rfl (Nat.le_of_ble_eq_true rfl) ⟨(Nat.le_of_ble_eq_true rfl), (Nat.le_of_ble_eq_true rfl)⟩ rfl (fun r23 u23 h => ?_)
    obtain ⟨q26, h⟩ := h
    refine a_iald C dX11_fromCrossing_26 k18 n18 q26 rfl ?_
    obtain ⟨q27, h⟩ := h
    refine a_iald C dX11_fromCrossing_27 k16 n16 q27 rfl ?_
    refine a_aload_n C dX11_fromCrossing_28 rfl 0 rfl rfl ?_
    refine a_iload_n C dX11_fromCrossing_29 rfl 2 rfl rfl ?_
    refine a_callVI C (c_X11_toStart l G cy L E hE u23 o a2 ho _ h) ho rfl (by decide) kw_7_8 kw_7_10 kp_66 kw_1_12 kw_7_11 rfl rfl pd_X11_toStart ⟨(Nat.le_of_ble_eq_true rfl), (Nat.le_of_ble_eq_true rfl)⟩ dX11_fromCrossing_30 rfl (Nat.le_of_ble_eq_true rfl) ⟨(Nat.le_of_ble_eq_true rfl), (Nat.le_of_ble_eq_true rfl)⟩ rfl (fun r30 u30 h => ?_)
    refine a_iadd C dX11_fromCrossing_33 rfl ?_
    refine a_aload_n C dX11_fromCrossing_34 rfl 0 rfl rfl ?_
    refine g_11_15 C hE dX11_fromCrossing_35 ho kw_5_237 rfl ?_
    refine a_iload_n C dX11_fromCrossing_38 rfl 1 rfl rfl ?_
    obtain ⟨q39, h⟩ := h
    refine a_aldI C dX11_fromCrossing_39 k12 (by decide) n12 q39 (hE.2.2 _ _ _ k12 (by decide) (by decide) (ms_in n12 q39)).1 rfl ?_
    have k39 : ms_is E (ms_at E (ms_at E o 15) (Int32.toNatClampNeg a1)) 13 := (hE.2.2 _ _ _ k12 (by decide) (by decide) (ms_in n12 q39)).2.1
    have n39 : ms_N E (ms_at E (ms_at E o 15) (Int32.toNatClampNeg a1)) = 10 := (hE.2.2 _ _ _ k12 (by decide) (by decide) (ms_in n12 q39)).2.2
    refine a_aload_n C dX11_fromCrossing_40 rfl 0 rfl rfl ?_
    refine g_11_8 C hE dX11_fromCrossing_41 ho kw_5_230 rfl ?_
    refine a_aload_n C dX11_fromCrossing_44 rfl 0 rfl rfl ?_
    refine a_iload_n C dX11_fromCrossing_45 rfl 2 rfl rfl ?_
    refine a_callVI C (c_X11_streetAt l G cy L E hE u30 o a2 ho _ h) ho rfl (by decide) kw_7_4 kw_7_6 kp_65 kw_1_12 kw_7_7 rfl rfl pd_X11_streetAt ⟨(Nat.le_of_ble_eq_true rfl), (Nat.le_of_ble_eq_true rfl)⟩ dX11_fromCrossing_46 rfl (Nat.le_of_ble_eq_true rfl) ⟨(Nat.le_of_ble_eq_true rfl), (Nat.le_of_ble_eq_true rfl)⟩ rfl (fun r46 u46 h => ?_)
    refine a_iconst (v := 1) C dX11_fromCrossing_49 (by decide) rfl ?_
    refine a_iadd C dX11_fromCrossing_50 rfl ?_
    obtain ⟨q51, h⟩ := h
    refine a_iald C dX11_fromCrossing_51 k18 n18 q51 rfl ?_
    obtain ⟨q52, h⟩ := h
    refine a_iald C dX11_fromCrossing_52 k39 n39 q52 rfl ?_
    refine a_aload_n C dX11_fromCrossing_53 rfl 0 rfl rfl ?_
    refine a_iload_n C dX11_fromCrossing_54 rfl 2 rfl rfl ?_
    refine a_callVI C (c_X11_toEnd l G cy L E hE u46 o a2 ho _ h) ho rfl (by decide) kw_7_16 kw_7_18 kp_68 kw_1_12 kw_7_19 rfl rfl pd_X11_toEnd ⟨(Nat.le_of_ble_eq_true rfl), (Nat.le_of_ble_eq_true rfl)⟩ dX11_fromCrossing_55 rfl (Nat.le_of_ble_eq_true rfl) ⟨(Nat.le_of_ble_eq_true rfl), (Nat.le_of_ble_eq_true rfl)⟩ rfl (fun r55 u55 h => ?_)
    refine a_iadd C dX11_fromCrossing_58 rfl ?_
    refine a_callSI C (c_X11_min l G cy L E hE u55 ((ms_I u23 (ms_at E (ms_at E o 15) (Int32.toNatClampNeg a1)) (Int32.toNatClampNeg (ms_I u23 (ms_at E o 8) (Int32.toNatClampNeg r23)))) + r30) ((ms_I u46 (ms_at E (ms_at E o 15) (Int32.toNatClampNeg a1)) (Int32.toNatClampNeg (ms_I u46 (ms_at E o 8) (Int32.toNatClampNeg (r46 + 1))))) + r55)  _ h) kw_6_136 kw_6_137 kw_1_12 kw_6_138 rfl rfl pd_X11_min ⟨(Nat.le_of_ble_eq_true rfl), (Nat.le_of_ble_eq_true rfl)⟩ dX11_fromCrossing_59 rfl (Nat.le_of_ble_eq_true rfl) ⟨(Nat.le_of_ble_eq_true rfl), (Nat.le_of_ble_eq_true rfl)⟩ rfl (fun r59 u59 h => ?_)
    exact a_iret C dX11_fromCrossing_62 hr hlocks (Nat.le_of_ble_eq_true rfl) (Nat.le_of_ble_eq_true rfl) h
  · replace h := h.2 hc
    refine a_ldc (v := 1000000) C dX11_fromCrossing_8 kw_6_135 rfl ?_
    exact a_iret C dX11_fromCrossing_10 hr hlocks (Nat.le_of_ble_eq_true rfl) (Nat.le_of_ble_eq_true rfl) h

/-! CensusWalkModel.between(II)I -/
theorem pd_X11_between : (⟨"CensusWalkModel", "between", "(II)I"⟩ : MethodName).cls = "CensusWalkModel" ∧ (⟨"CensusWalkModel", "between", "(II)I"⟩ : MethodName).cls ≠ "java/lang/invoke/MethodHandle" ∧ (⟨"CensusWalkModel", "between", "(II)I"⟩ : MethodName).cls ≠ "java/lang/invoke/VarHandle" ∧ (parseMethodDescriptor (⟨"CensusWalkModel", "between", "(II)I"⟩ : MethodName).desc).map (fun d => d.parameters.length) = some 2 := by decide +kernel
def wp_X11_between_23 (E : ms_En) (o : Nat) (a1 : Int32) (a2 : Int32) (post : Int32 → ms_St → Prop)  (u : ms_St)  : Prop := post 1000000 u
set_option maxHeartbeats 4000000 in
set_option maxRecDepth 100000 in
theorem c_X11_between_23 {p : Program} {l : Launch} {e : Env} {s : State} {m : MethodId} {args : Array Value} {below : List Frame} {meth : Method} {c : Code} {G : va_G} {cy : Nat → ClassId} {A : Nat → Prop} {L : Nat → Nat} {E : ms_En} (C : ms_Cx p m c cX11_between 5 s args (Cond.code ⟨"CensusWalkModel", "between", "(II)I"⟩ prog_13_method_36_code 5 (some .int)) "CensusWalkModel" G cy A) (hr : meth.sig.returnType = (some .int)) (hlocks : meth.locks = false) (hE : ms_WT E) {o : Nat} {a1 : Int32} {a2 : Int32} {post : Int32 → ms_St → Prop}  (ho : ms_is E o 11)  (u : ms_St)   (h : wp_X11_between_23 E o a1 a2 post u ) : ms_At p l e ({ frames := 4, cells := 0, slots := 0, locals := 84 } : Room) s m args below meth c 5 G cy A L 0 0 (ms_QI below args s G cy L E A post 0 0) E u 23 [] [] := by
  unfold wp_X11_between_23 at h
  refine a_ldc (v := 1000000) C dX11_between_23 kw_6_135 rfl ?_
  exact a_iret C dX11_between_25 hr hlocks (Nat.le_of_ble_eq_true rfl) (Nat.le_of_ble_eq_true rfl) h
def wp_X11_between_162 (E : ms_En) (o : Nat) (a1 : Int32) (a2 : Int32) (post : Int32 → ms_St → Prop)  (u : ms_St) (z0 : Int32) (z1 : Int32) : Prop := post (z1 + z0) u
set_option maxHeartbeats 4000000 in
set_option maxRecDepth 100000 in
theorem c_X11_between_162 {p : Program} {l : Launch} {e : Env} {s : State} {m : MethodId} {args : Array Value} {below : List Frame} {meth : Method} {c : Code} {G : va_G} {cy : Nat → ClassId} {A : Nat → Prop} {L : Nat → Nat} {E : ms_En} (C : ms_Cx p m c cX11_between 5 s args (Cond.code ⟨"CensusWalkModel", "between", "(II)I"⟩ prog_13_method_36_code 5 (some .int)) "CensusWalkModel" G cy A) (hr : meth.sig.returnType = (some .int)) (hlocks : meth.locks = false) (hE : ms_WT E) {o : Nat} {a1 : Int32} {a2 : Int32} {post : Int32 → ms_St → Prop}  (ho : ms_is E o 11)  (u : ms_St) (z0 : Int32) (z1 : Int32)  (h : wp_X11_between_162 E o a1 a2 post u z0 z1) : ms_At p l e ({ frames := 4, cells := 0, slots := 0, locals := 84 } : Room) s m args below meth c 5 G cy A L 0 0 (ms_QI below args s G cy L E A post 0 0) E u 162 [] [.int z0, .int z1] := by
  unfold wp_X11_between_162 at h
  refine a_iadd C dX11_between_162 rfl ?_
  exact a_iret C dX11_between_163 hr hlocks (Nat.le_of_ble_eq_true rfl) (Nat.le_of_ble_eq_true rfl) h
def wp_X11_between_124 (E : ms_En) (o : Nat) (a1 : Int32) (a2 : Int32) (post : Int32 → ms_St → Prop)  (u : ms_St) (z0 : Int32) (z1 : Int32) : Prop := wp_X11_min E u z1 z0 (fun r124 u124 => wp_X11_house E u124 a1 (fun r132 u132 => vp_in (r132 + 2) 1613 ∧ (wp_X11_house E u132 a2 (fun r143 u143 => vp_in (r143 + 2) 1613 ∧ (((ms_I u132 (ms_at E o 8) (Int32.toNatClampNeg (r132 + 2))) = (ms_I u143 (ms_at E o 8) (Int32.toNatClampNeg (r143 + 2))) → wp_X11_between_162 E o a1 a2 post u143 0 r124) ∧ (¬ (ms_I u132 (ms_at E o 8) (Int32.toNatClampNeg (r132 + 2))) = (ms_I u143 (ms_at E o 8) (Int32.toNatClampNeg (r143 + 2))) → vp_in 4 1613 ∧ (wp_X11_between_162 E o a1 a2 post u143 (ms_I u143 (ms_at E o 8) (Int32.toNatClampNeg 4)) r124)))))))
set_option maxHeartbeats 4000000 in
set_option maxRecDepth 100000 in
theorem c_X11_between_124 {p : Program} {l : Launch} {e : Env} {s : State} {m : MethodId} {args : Array Value} {below : List Frame} {meth : Method} {c : Code} {G : va_G} {cy : Nat → ClassId} {A : Nat → Prop} {L : Nat → Nat} {E : ms_En} (C : ms_Cx p m c cX11_between 5 s args (Cond.code ⟨"CensusWalkModel", "between", "(II)I"⟩ prog_13_method_36_code 5 (some .int)) "CensusWalkModel" G cy A) (hr : meth.sig.returnType = (some .int)) (hlocks : meth.locks = false) (hE : ms_WT E) {o : Nat} {a1 : Int32} {a2 : Int32} {post : Int32 → ms_St → Prop}  (ho : ms_is E o 11)  (u : ms_St) (z0 : Int32) (z1 : Int32)  (h : wp_X11_between_124 E o a1 a2 post u z0 z1) : ms_At p l e ({ frames := 4, cells := 0, slots := 0, locals := 84 } : Room) s m args below meth c 5 G cy A L 0 0 (ms_QI below args s G cy L E A post 0 0) E u 124 [(0, .ref (L o)), (1, .int a1), (2, .int a2)] [.int z0, .int z1] := by
  unfold wp_X11_between_124 at h
  refine a_callSI C (c_X11_min l G cy L E hE u z1 z0  _ h) kw_6_136 kw_6_137 kw_1_12 kw_6_138 rfl rfl pd_X11_min ⟨(Nat.le_of_ble_eq_true rfl), (Nat.le_of_ble_eq_true rfl)⟩ dX11_between_124 rfl (Nat.le_of_ble_eq_true rfl) ⟨(Nat.le_of_ble_eq_true rfl), (Nat.le_of_ble_eq_true rfl)⟩ rfl (fun r124 u124 h => ?_)
  refine a_aload_n C dX11_between_127 rfl 0 rfl rfl ?_
  refine g_11_8 C hE dX11_between_128 ho kw_5_230 rfl ?_
  have k128 : ms_is E (ms_at E o 8) 13 := ms_wt hE ho rfl (by decide)
  have n128 : ms_N E (ms_at E o 8) = 1613 := ms_wl hE ho (by decide) (by decide) rfl
  refine a_iload_n C dX11_between_131 rfl 1 rfl rfl ?_
  refine a_callSI C (c_X11_house l G cy L E hE u124 a1  _ h) kw_6_160 kw_6_161 kw_1_12 kw_6_162 rfl rfl pd_X11_house ⟨(Nat.le_of_ble_eq_true rfl), (Nat.le_of_ble_eq_true rfl)⟩ dX11_between_132 rfl (Nat.le_of_ble_eq_true rfl) ⟨(Nat.le_of_ble_eq_true rfl), (Nat.le_of_ble_eq_true rfl)⟩ rfl (fun r132 u132 h => ?_)
  refine a_iconst (v := 2) C dX11_between_135 (by decide) rfl ?_
  refine a_iadd C dX11_between_136 rfl ?_
  obtain ⟨q137, h⟩ := h
  refine a_iald C dX11_between_137 k128 n128 q137 rfl ?_
  refine a_aload_n C dX11_between_138 rfl 0 rfl rfl ?_
  refine g_11_8 C hE dX11_between_139 ho kw_5_230 rfl ?_
  refine a_iload_n C dX11_between_142 rfl 2 rfl rfl ?_
  refine a_callSI C (c_X11_house l G cy L E hE u132 a2  _ h) kw_6_160 kw_6_161 kw_1_12 kw_6_162 rfl rfl pd_X11_house ⟨(Nat.le_of_ble_eq_true rfl), (Nat.le_of_ble_eq_true rfl)⟩ dX11_between_143 rfl (Nat.le_of_ble_eq_true rfl) ⟨(Nat.le_of_ble_eq_true rfl), (Nat.le_of_ble_eq_true rfl)⟩ rfl (fun r143 u143 h => ?_)
  refine a_iconst (v := 2) C dX11_between_146 (by decide) rfl ?_
  refine a_iadd C dX11_between_147 rfl ?_
  obtain ⟨q148, h⟩ := h
  refine a_iald C dX11_between_148 k128 n128 q148 rfl ?_
  refine a_icmp_ne (tgt := 156) C dX11_between_149 (by decide) rfl (fun hc => ?_) (fun hc => ?_)
  · replace h := h.2 hc
    refine a_aload_n C dX11_between_156 rfl 0 rfl rfl ?_
    refine g_11_8 C hE dX11_between_157 ho kw_5_230 rfl ?_
    refine a_iconst (v := 4) C dX11_between_160 (by decide) rfl ?_
    obtain ⟨q161, h⟩ := h
    refine a_iald C dX11_between_161 k128 n128 q161 rfl ?_
    refine a_sub (lv' := []) [] rfl ?_
    exact c_X11_between_162 C hr hlocks hE ho  u143 (ms_I u143 (ms_at E o 8) (Int32.toNatClampNeg 4)) r124  h
  · replace h := h.1 hc
    refine a_iconst (v := 0) C dX11_between_152 (by decide) rfl ?_
    refine a_goto (tgt := 162) C dX11_between_153 (by decide) ?_
    refine a_sub (lv' := []) [] rfl ?_
    exact c_X11_between_162 C hr hlocks hE ho  u143 0 r124  h
def wp_X11_between (E : ms_En) (u : ms_St) (o : Nat) (a1 : Int32) (a2 : Int32) (post : Int32 → ms_St → Prop) : Prop := (a1 = a2 → post 0 u) ∧ (¬ a1 = a2 → wp_X11_isShut E u o a1 (fun r9 u9 => (r9 = 0 → wp_X11_isShut E u9 o a2 (fun r17 u17 => (r17 = 0 → wp_X11_toStart E u17 o a1 (fun r28 u28 => wp_X11_streetAt E u28 o a1 (fun r38 u38 => vp_in r38 1613 ∧ (wp_X11_fromCrossing E u38 o (ms_I u38 (ms_at E o 8) (Int32.toNatClampNeg r38)) a2 (fun r43 u43 => wp_X11_toEnd E u43 o a1 (fun r49 u49 => wp_X11_streetAt E u49 o a1 (fun r59 u59 => vp_in (r59 + 1) 1613 ∧ (wp_X11_fromCrossing E u59 o (ms_I u59 (ms_at E o 8) (Int32.toNatClampNeg (r59 + 1))) a2 (fun r66 u66 => wp_X11_min E u66 (r28 + r43) (r49 + r66) (fun r70 u70 => wp_X11_house E u70 a1 (fun r79 u79 => vp_in r79 1613 ∧ (wp_X11_house E u79 a2 (fun r88 u88 => vp_in r88 1613 ∧ (((ms_I u79 (ms_at E o 8) (Int32.toNatClampNeg r79)) = (ms_I u88 (ms_at E o 8) (Int32.toNatClampNeg r88)) → wp_X11_toStart E u88 o a1 (fun r99 u99 => wp_X11_toStart E u99 o a2 (fun r104 u104 => ∀ v108 : Int32, v108 = (r99 - r104) → ((0 ≤ v108 → wp_X11_between_124 E o a1 a2 post u104 v108 r70) ∧ (¬ 0 ≤ v108 → wp_X11_between_124 E o a1 a2 post u104 (-v108) r70))))) ∧ (¬ (ms_I u79 (ms_at E o 8) (Int32.toNatClampNeg r79)) = (ms_I u88 (ms_at E o 8) (Int32.toNatClampNeg r88)) → post r70 u88))))))))))))))) ∧ (¬ r17 = 0 → wp_X11_between_23 E o a1 a2 post u17))) ∧ (¬ r9 = 0 → wp_X11_between_23 E o a1 a2 post u9)))
set_option maxHeartbeats 4000000 in
set_option maxRecDepth 100000 in
theorem c_X11_between (l : Launch) (G : va_G) (cy : Nat → ClassId) (L : Nat → Nat) (E : ms_En) (hE : ms_WT E) (u : ms_St) (o : Nat) (a1 : Int32) (a2 : Int32) (ho : ms_is E o 11) (post : Int32 → ms_St → Prop) (h : wp_X11_between E u o a1 a2 post) : ms_MetI l ⟨"CensusWalkModel", "between", "(II)I"⟩ (Cond.code ⟨"CensusWalkModel", "between", "(II)I"⟩ prog_13_method_36_code 5 (some .int) :: lw_g) ({ frames := 4, cells := 0, slots := 0, locals := 84 } : Room) G cy L E [.ref (L o), .int a1, .int a2] u post 0 0 := by
  refine ms_enterI (lv := [(0, .ref (L o)), (1, .int a1), (2, .int a2)]) (by decide) (Nat.le_of_ble_eq_true rfl) rfl ?_
  intro p e s m args below meth c A C hr hlocks
  unfold wp_X11_between at h
  refine a_iload_n C dX11_between_0 rfl 1 rfl rfl ?_
  refine a_iload_n C dX11_between_1 rfl 2 rfl rfl ?_
  refine a_icmp_ne (tgt := 7) C dX11_between_2 (by decide) rfl (fun hc => ?_) (fun hc => ?_)
  · replace h := h.2 hc
    refine a_aload_n C dX11_between_7 rfl 0 rfl rfl ?_
    refine a_iload_n C dX11_between_8 rfl 1 rfl rfl ?_
    refine a_callVI C (c_X11_isShut l G cy L E hE u o a1 ho _ h) ho rfl (by decide) kw_7_0 kw_7_2 kp_64 kw_1_12 kw_7_3 rfl rfl pd_X11_isShut ⟨(Nat.le_of_ble_eq_true rfl), (Nat.le_of_ble_eq_true rfl)⟩ dX11_between_9 rfl (Nat.le_of_ble_eq_true rfl) ⟨(Nat.le_of_ble_eq_true rfl), (Nat.le_of_ble_eq_true rfl)⟩ rfl (fun r9 u9 h => ?_)
    refine a_if_ne (tgt := 23) C dX11_between_12 (by decide) rfl (fun hc => ?_) (fun hc => ?_)
    · replace h := h.2 hc
      refine a_sub (lv' := []) [] rfl ?_
      exact c_X11_between_23 C hr hlocks hE ho  u9  h
    · replace h := h.1 hc
      refine a_aload_n C dX11_between_15 rfl 0 rfl rfl ?_
      refine a_iload_n C dX11_between_16 rfl 2 rfl rfl ?_
      refine a_callVI C (c_X11_isShut l G cy L E hE u9 o a2 ho _ h) ho rfl (by decide) kw_7_0 kw_7_2 kp_64 kw_1_12 kw_7_3 rfl rfl pd_X11_isShut ⟨(Nat.le_of_ble_eq_true rfl), (Nat.le_of_ble_eq_true rfl)⟩ dX11_between_17 rfl (Nat.le_of_ble_eq_true rfl) ⟨(Nat.le_of_ble_eq_true rfl), (Nat.le_of_ble_eq_true rfl)⟩ rfl (fun r17 u17 h => ?_)
      refine a_if_eq (tgt := 26) C dX11_between_20 (by decide) rfl (fun hc => ?_) (fun hc => ?_)
      · replace h := h.1 hc
        refine a_aload_n C dX11_between_26 rfl 0 rfl rfl ?_
        refine a_iload_n C dX11_between_27 rfl 1 rfl rfl ?_
        refine a_callVI C (c_X11_toStart l G cy L E hE u17 o a1 ho _ h) ho rfl (by decide) kw_7_8 kw_7_10 kp_66 kw_1_12 kw_7_11 rfl rfl pd_X11_toStart ⟨(Nat.le_of_ble_eq_true rfl), (Nat.le_of_ble_eq_true rfl)⟩ dX11_between_28 rfl (Nat.le_of_ble_eq_true rfl) ⟨(Nat.le_of_ble_eq_true rfl), (Nat.le_of_ble_eq_true rfl)⟩ rfl (fun r28 u28 h => ?_)
        refine a_aload_n C dX11_between_31 rfl 0 rfl rfl ?_
        refine a_aload_n C dX11_between_32 rfl 0 rfl rfl ?_
        refine g_11_8 C hE dX11_between_33 ho kw_5_230 rfl ?_
        have k33 : ms_is E (ms_at E o 8) 13 := ms_wt hE ho rfl (by decide)
        have n33 : ms_N E (ms_at E o 8) = 1613 := ms_wl hE ho (by decide) (by decide) rfl
        refine a_aload_n C dX11_between_36 rfl 0 rfl rfl ?_
        refine a_iload_n C dX11_between_37 rfl 1 rfl rfl ?_
        refine a_callVI C (c_X11_streetAt l G cy L E hE u28 o a1 ho _ h) ho rfl (by decide) kw_7_4 kw_7_6 kp_65 kw_1_12 kw_7_7 rfl rfl pd_X11_streetAt ⟨(Nat.le_of_ble_eq_true rfl), (Nat.le_of_ble_eq_true rfl)⟩ dX11_between_38 rfl (Nat.le_of_ble_eq_true rfl) ⟨(Nat.le_of_ble_eq_true rfl), (Nat.le_of_ble_eq_true rfl)⟩ rfl (fun r38 u38 h => ?_)
        obtain ⟨q41, h⟩ := h
        refine a_iald C dX11_between_41 k33 n33 q41 rfl ?_
        refine a_iload_n C dX11_between_42 rfl 2 rfl rfl ?_
        refine a_callVI C (c_X11_fromCrossing l G cy L E hE u38 o (ms_I u38 (ms_at E o 8) (Int32.toNatClampNeg r38)) a2 ho _ h) ho rfl (by decide) kw_7_12 kw_7_14 kp_67 kw_1_12 kw_7_15 rfl rfl pd_X11_fromCrossing ⟨(Nat.le_of_ble_eq_true rfl), (Nat.le_of_ble_eq_true rfl)⟩ dX11_between_43 rfl (Nat.le_of_ble_eq_true rfl) ⟨(Nat.le_of_ble_eq_true rfl), (Nat.le_of_ble_eq_true rfl)⟩ rfl (fun r43 u43 h => ?_)
        refine a_iadd C dX11_between_46 rfl ?_
        refine a_aload_n C dX11_between_47 rfl 0 rfl rfl ?_
        refine a_iload_n C dX11_between_48 rfl 1 rfl rfl ?_
        refine a_callVI C (c_X11_toEnd l G cy L E hE u43 o a1 ho _ h) ho rfl (by decide) kw_7_16 kw_7_18 kp_68 kw_1_12 kw_7_19 rfl rfl pd_X11_toEnd ⟨(Nat.le_of_ble_eq_true rfl), (Nat.le_of_ble_eq_true rfl)⟩ dX11_between_49 rfl (Nat.le_of_ble_eq_true rfl) ⟨(Nat.le_of_ble_eq_true rfl), (Nat.le_of_ble_eq_true rfl)⟩ rfl (fun r49 u49 h => ?_)
        refine a_aload_n C dX11_between_52 rfl 0 rfl rfl ?_
        refine a_aload_n C dX11_between_53 rfl 0 rfl rfl ?_
        refine g_11_8 C hE dX11_between_54 ho kw_5_230 rfl ?_
        refine a_aload_n C dX11_between_57 rfl 0 rfl rfl ?_
        refine a_iload_n C dX11_between_58 rfl 1 rfl rfl ?_
        refine a_callVI C (c_X11_streetAt l G cy L E hE u49 o a1 ho _ h) ho rfl (by decide) kw_7_4 kw_7_6 kp_65 kw_1_12 kw_7_7 rfl rfl pd_X11_streetAt ⟨(Nat.le_of_ble_eq_true rfl), (Nat.le_of_ble_eq_true rfl)⟩ dX11_between_59 rfl (Nat.le_of_ble_eq_true rfl) ⟨(Nat.le_of_ble_eq_true rfl), (Nat.le_of_ble_eq_true rfl)⟩ rfl (fun r59 u59 h => ?_)
        refine a_iconst (v := 1) C dX11_between_62 (by decide) rfl ?_
        refine a_iadd C dX11_between_63 rfl ?_
        obtain ⟨q64, h⟩ := h
        refine a_iald C dX11_between_64 k33 n33 q64 rfl ?_
        refine a_iload_n C dX11_between_65 rfl 2 rfl rfl ?_
        refine a_callVI C (c_X11_fromCrossing l G cy L E hE u59 o (ms_I u59 (ms_at E o 8) (Int32.toNatClampNeg (r59 + 1))) a2 ho _ h) ho rfl (by decide) kw_7_12 kw_7_14 kp_67 kw_1_12 kw_7_15 rfl rfl pd_X11_fromCrossing ⟨(Nat.le_of_ble_eq_true rfl), (Nat.le_of_ble_eq_true rfl)⟩ dX11_between_66 rfl (Nat.le_of_ble_eq_true rfl) ⟨(Nat.le_of_ble_eq_true rfl), (Nat.le_of_ble_eq_true rfl)⟩ rfl (fun r66 u66 h => ?_)
        refine a_iadd C dX11_between_69 rfl ?_
        refine a_callSI C (c_X11_min l G cy L E hE u66 (r28 + r43) (r49 + r66)  _ h) kw_6_136 kw_6_137 kw_1_12 kw_6_138 rfl rfl pd_X11_min ⟨(Nat.le_of_ble_eq_true rfl), (Nat.le_of_ble_eq_true rfl)⟩ dX11_between_70 rfl (Nat.le_of_ble_eq_true rfl) ⟨(Nat.le_of_ble_eq_true rfl), (Nat.le_of_ble_eq_true rfl)⟩ rfl (fun r70 u70 h => ?_)
        refine a_istore_n (lv' := [(0, .ref (L o)), (1, .int a1), (2, .int a2), (3, .int r70)]) C dX11_between_73 rfl (by decide) [1, 2, 3, 0] rfl rfl ?_
        refine a_aload_n C dX11_between_74 rfl 0 rfl rfl ?_
        refine g_11_8 C hE dX11_between_75 ho kw_5_230 rfl ?_
        refine a_iload_n C dX11_between_78 rfl 1 rfl rfl ?_
        refine a_callSI C (c_X11_house l G cy L E hE u70 a1  _ h) kw_6_160 kw_6_161 kw_1_12 kw_6_162 rfl rfl pd_X11_house ⟨(Nat.le_of_ble_eq_true rfl), (Nat.le_of_ble_eq_true rfl)⟩ dX11_between_79 rfl (Nat.le_of_ble_eq_true rfl) ⟨(Nat.le_of_ble_eq_true rfl), (Nat.le_of_ble_eq_true rfl)⟩ rfl (fun r79 u79 h => ?_)
        obtain ⟨q82, h⟩ := h
        refine a_iald C dX11_between_82 k33 n33 q82 rfl ?_
        refine a_aload_n C dX11_between_83 rfl 0 rfl rfl ?_
        refine g_11_8 C hE dX11_between_84 ho kw_5_230 rfl ?_
        refine a_iload_n C dX11_between_87 rfl 2 rfl rfl ?_
        refine a_callSI C (c_X11_house l G cy L E hE u79 a2  _ h) kw_6_160 kw_6_161 kw_1_12 kw_6_162 rfl rfl pd_X11_house ⟨(Nat.le_of_ble_eq_true rfl), (Nat.le_of_ble_eq_true rfl)⟩ dX11_between_88 rfl (Nat.le_of_ble_eq_true rfl) ⟨(Nat.le_of_ble_eq_true rfl), (Nat.le_of_ble_eq_true rfl)⟩ rfl (fun r88 u88 h => ?_)
        obtain ⟨q91, h⟩ := h
        refine a_iald C dX11_between_91 k33 n33 q91 rfl ?_
        refine a_icmp_eq (tgt := 97) C dX11_between_92 (by decide) rfl (fun hc => ?_) (fun hc => ?_)
        · replace h := h.1 hc
          refine a_aload_n C dX11_between_97 rfl 0 rfl rfl ?_
          refine a_iload_n C dX11_between_98 rfl 1 rfl rfl ?_
          refine a_callVI C (c_X11_toStart l G cy L E hE u88 o a1 ho _ h) ho rfl (by decide) kw_7_8 kw_7_10 kp_66 kw_1_12 kw_7_11 rfl rfl pd_X11_toStart ⟨(Nat.le_of_ble_eq_true rfl), (Nat.le_of_ble_eq_true rfl)⟩ dX11_between_99 rfl (Nat.le_of_ble_eq_true rfl) ⟨(Nat.le_of_ble_eq_true rfl), (Nat.le_of_ble_eq_true rfl)⟩ rfl (fun r99 u99 h => ?_)
          refine a_aload_n C dX11_between_102 rfl 0 rfl rfl ?_
          refine a_iload_n C dX11_between_103 rfl 2 rfl rfl ?_
          refine a_callVI C (c_X11_toStart l G cy L E hE u99 o a2 ho _ h) ho rfl (by decide) kw_7_8 kw_7_10 kp_66 kw_1_12 kw_7_11 rfl rfl pd_X11_toStart ⟨(Nat.le_of_ble_eq_true rfl), (Nat.le_of_ble_eq_true rfl)⟩ dX11_between_104 rfl (Nat.le_of_ble_eq_true rfl) ⟨(Nat.le_of_ble_eq_true rfl), (Nat.le_of_ble_eq_true rfl)⟩ rfl (fun r104 u104 h => ?_)
          refine a_isub C dX11_between_107 rfl ?_
          refine a_nmI (fun v108 e108 => ?_)
          replace h := h v108 e108
          refine a_istore (lv' := [(0, .ref (L o)), (1, .int a1), (2, .int a2), (3, .int r70), (4, .int v108)]) C dX11_between_108 (by decide) [1, 2, 3, 4, 0] rfl rfl ?_
          refine a_iload_n C dX11_between_110 rfl 3 rfl rfl ?_
          refine a_iload C dX11_between_111 4 rfl rfl ?_
          refine a_if_ge (tgt := 122) C dX11_between_113 (by decide) rfl (fun hc => ?_) (fun hc => ?_)
          · replace h := h.1 hc
            refine a_iload C dX11_between_122 4 rfl rfl ?_
            refine a_sub (lv' := [(0, .ref (L o)), (1, .int a1), (2, .int a2)]) [0, 1, 2] rfl ?_
            exact c_X11_between_124 C hr hlocks hE ho  u104 v108 r70  h
          · replace h := h.2 hc
            refine a_iload C dX11_between_116 4 rfl rfl ?_
            refine a_ineg C dX11_between_118 rfl ?_
            refine a_goto (tgt := 124) C dX11_between_119 (by decide) ?_
            refine a_sub (lv' := [(0, .ref (L o)), (1, .int a1), (2, .int a2)]) [0, 1, 2] rfl ?_
            exact c_X11_between_124 C hr hlocks hE ho  u104 (-v108) r70  h
        · replace h := h.2 hc
          refine a_iload_n C dX11_between_95 rfl 3 rfl rfl ?_
          exact a_iret C dX11_between_96 hr hlocks (Nat.le_of_ble_eq_true rfl) (Nat.le_of_ble_eq_true rfl) h
      · replace h := h.2 hc
        refine a_sub (lv' := []) [] rfl ?_
        exact c_X11_between_23 C hr hlocks hE ho  u17  h
  · replace h := h.1 hc
    refine a_iconst (v := 0) C dX11_between_5 (by decide) rfl ?_
    exact a_iret C dX11_between_6 hr hlocks (Nat.le_of_ble_eq_true rfl) (Nat.le_of_ble_eq_true rfl) h

/-! CensusWalkModel.told(I)I -/
theorem pd_X11_told : (⟨"CensusWalkModel", "told", "(I)I"⟩ : MethodName).cls ≠ "java/lang/invoke/MethodHandle" ∧ (⟨"CensusWalkModel", "told", "(I)I"⟩ : MethodName).cls ≠ "java/lang/invoke/VarHandle" ∧ (parseMethodDescriptor (⟨"CensusWalkModel", "told", "(I)I"⟩ : MethodName).desc).map (fun d => d.parameters.length) = some 1 := by decide +kernel
def wp_X11_told_11 (E : ms_En) (a0 : Int32) (post : Int32 → ms_St → Prop)  (u : ms_St) (z0 : Int32) : Prop := post z0 u
set_option maxHeartbeats 4000000 in
set_option maxRecDepth 100000 in
theorem c_X11_told_11 {p : Program} {l : Launch} {e : Env} {s : State} {m : MethodId} {args : Array Value} {below : List Frame} {meth : Method} {c : Code} {G : va_G} {cy : Nat → ClassId} {A : Nat → Prop} {L : Nat → Nat} {E : ms_En} (C : ms_Cx p m c cX11_told 1 s args (Cond.code ⟨"CensusWalkModel", "told", "(I)I"⟩ prog_13_method_37_code 1 (some .int)) "CensusWalkModel" G cy A) (hr : meth.sig.returnType = (some .int)) (hlocks : meth.locks = false) (hE : ms_WT E) {a0 : Int32} {post : Int32 → ms_St → Prop}    (u : ms_St) (z0 : Int32)  (h : wp_X11_told_11 E a0 post u z0) : ms_At p l e ({ frames := 0, cells := 0, slots := 0, locals := 0 } : Room) s m args below meth c 1 G cy A L 0 0 (ms_QI below args s G cy L E A post 0 0) E u 11 [] [.int z0] := by
  unfold wp_X11_told_11 at h
  exact a_iret C dX11_told_11 hr hlocks (Nat.le_of_ble_eq_true rfl) (Nat.le_of_ble_eq_true rfl) h
def wp_X11_told (E : ms_En) (u : ms_St) (a0 : Int32) (post : Int32 → ms_St → Prop) : Prop := (a0 < 1000000 → wp_X11_told_11 E a0 post u a0) ∧ (¬ a0 < 1000000 → wp_X11_told_11 E a0 post u (-1))
set_option maxHeartbeats 4000000 in
set_option maxRecDepth 100000 in
theorem c_X11_told (l : Launch) (G : va_G) (cy : Nat → ClassId) (L : Nat → Nat) (E : ms_En) (hE : ms_WT E) (u : ms_St) (a0 : Int32)  (post : Int32 → ms_St → Prop) (h : wp_X11_told E u a0 post) : ms_MetI l ⟨"CensusWalkModel", "told", "(I)I"⟩ (Cond.code ⟨"CensusWalkModel", "told", "(I)I"⟩ prog_13_method_37_code 1 (some .int) :: lw_g) ({ frames := 0, cells := 0, slots := 0, locals := 0 } : Room) G cy L E [.int a0] u post 0 0 := by
  refine ms_enterI (lv := [(0, .int a0)]) (by decide) (Nat.le_of_ble_eq_true rfl) rfl ?_
  intro p e s m args below meth c A C hr hlocks
  unfold wp_X11_told at h
  refine a_iload_n C dX11_told_0 rfl 0 rfl rfl ?_
  refine a_ldc (v := 1000000) C dX11_told_1 kw_6_135 rfl ?_
  refine a_icmp_lt (tgt := 10) C dX11_told_3 (by decide) rfl (fun hc => ?_) (fun hc => ?_)
  · replace h := h.1 hc
    refine a_iload_n C dX11_told_10 rfl 0 rfl rfl ?_
    refine a_sub (lv' := []) [] rfl ?_
    exact c_X11_told_11 C hr hlocks hE   u a0  h
  · replace h := h.2 hc
    refine a_iconst (v := (-1)) C dX11_told_6 (by decide) rfl ?_
    refine a_goto (tgt := 11) C dX11_told_7 (by decide) ?_
    refine a_sub (lv' := []) [] rfl ?_
    exact c_X11_told_11 C hr hlocks hE   u (-1)  h

/-! CensusWalkModel.limited(J)J -/
theorem pd_X11_limited : (⟨"CensusWalkModel", "limited", "(J)J"⟩ : MethodName).cls ≠ "java/lang/invoke/MethodHandle" ∧ (⟨"CensusWalkModel", "limited", "(J)J"⟩ : MethodName).cls ≠ "java/lang/invoke/VarHandle" ∧ (parseMethodDescriptor (⟨"CensusWalkModel", "limited", "(J)J"⟩ : MethodName).desc).map (fun d => d.parameters.length) = some 1 := by decide +kernel
def wp_X11_limited_29 (E : ms_En) (a0 : Int64) (post : Int64 → ms_St → Prop)  (u : ms_St) (z0 : Int64) : Prop := post z0 u
set_option maxHeartbeats 4000000 in
set_option maxRecDepth 100000 in
theorem c_X11_limited_29 {p : Program} {l : Launch} {e : Env} {s : State} {m : MethodId} {args : Array Value} {below : List Frame} {meth : Method} {c : Code} {G : va_G} {cy : Nat → ClassId} {A : Nat → Prop} {L : Nat → Nat} {E : ms_En} (C : ms_Cx p m c cX11_limited 2 s args (Cond.code ⟨"CensusWalkModel", "limited", "(J)J"⟩ prog_13_method_38_code 2 (some .long)) "CensusWalkModel" G cy A) (hr : meth.sig.returnType = (some .long)) (hlocks : meth.locks = false) (hE : ms_WT E) {a0 : Int64} {post : Int64 → ms_St → Prop}    (u : ms_St) (z0 : Int64)  (h : wp_X11_limited_29 E a0 post u z0) : ms_At p l e ({ frames := 0, cells := 0, slots := 0, locals := 0 } : Room) s m args below meth c 2 G cy A L 0 0 (ms_QL below args s G cy L E A post 0 0) E u 29 [] [.long z0] := by
  unfold wp_X11_limited_29 at h
  exact a_lret C dX11_limited_29 hr hlocks (Nat.le_of_ble_eq_true rfl) (Nat.le_of_ble_eq_true rfl) h
def wp_X11_limited (E : ms_En) (u : ms_St) (a0 : Int64) (post : Int64 → ms_St → Prop) : Prop := ((lg_cmp a0 1000000) ≤ 0 → (0 ≤ (lg_cmp a0 (-1000000)) → wp_X11_limited_29 E a0 post u a0) ∧ (¬ 0 ≤ (lg_cmp a0 (-1000000)) → wp_X11_limited_29 E a0 post u (-1000000))) ∧ (¬ (lg_cmp a0 1000000) ≤ 0 → wp_X11_limited_29 E a0 post u 1000000)
set_option maxHeartbeats 4000000 in
set_option maxRecDepth 100000 in
theorem c_X11_limited (l : Launch) (G : va_G) (cy : Nat → ClassId) (L : Nat → Nat) (E : ms_En) (hE : ms_WT E) (u : ms_St) (a0 : Int64)  (post : Int64 → ms_St → Prop) (h : wp_X11_limited E u a0 post) : ms_MetL l ⟨"CensusWalkModel", "limited", "(J)J"⟩ (Cond.code ⟨"CensusWalkModel", "limited", "(J)J"⟩ prog_13_method_38_code 2 (some .long) :: lw_g) ({ frames := 0, cells := 0, slots := 0, locals := 0 } : Room) G cy L E [.long a0] u post 0 0 := by
  refine ms_enterL (lv := [(0, .long a0)]) (by decide) (Nat.le_of_ble_eq_true rfl) rfl ?_
  intro p e s m args below meth c A C hr hlocks
  unfold wp_X11_limited at h
  refine a_lload_n C dX11_limited_0 rfl 0 rfl rfl ?_
  refine a_ldc2 (v := 1000000) C dX11_limited_1 kw_7_65 rfl ?_
  refine a_lcmp C dX11_limited_4 rfl ?_
  refine a_if_le (tgt := 14) C dX11_limited_5 (by decide) rfl (fun hc => ?_) (fun hc => ?_)
  · replace h := h.1 hc
    refine a_lload_n C dX11_limited_14 rfl 0 rfl rfl ?_
    refine a_ldc2 (v := (-1000000)) C dX11_limited_15 kw_7_66 rfl ?_
    refine a_lcmp C dX11_limited_18 rfl ?_
    refine a_if_ge (tgt := 28) C dX11_limited_19 (by decide) rfl (fun hc => ?_) (fun hc => ?_)
    · replace h := h.1 hc
      refine a_lload_n C dX11_limited_28 rfl 0 rfl rfl ?_
      refine a_sub (lv' := []) [] rfl ?_
      exact c_X11_limited_29 C hr hlocks hE   u a0  h
    · replace h := h.2 hc
      refine a_ldc2 (v := (-1000000)) C dX11_limited_22 kw_7_66 rfl ?_
      refine a_goto (tgt := 29) C dX11_limited_25 (by decide) ?_
      refine a_sub (lv' := []) [] rfl ?_
      exact c_X11_limited_29 C hr hlocks hE   u (-1000000)  h
  · replace h := h.2 hc
    refine a_ldc2 (v := 1000000) C dX11_limited_8 kw_7_65 rfl ?_
    refine a_goto (tgt := 29) C dX11_limited_11 (by decide) ?_
    refine a_sub (lv' := []) [] rfl ?_
    exact c_X11_limited_29 C hr hlocks hE   u 1000000  h

/-! CensusWalkModel.operate(IJJ)J -/
theorem pd_X11_operate : (⟨"CensusWalkModel", "operate", "(IJJ)J"⟩ : MethodName).cls ≠ "java/lang/invoke/MethodHandle" ∧ (⟨"CensusWalkModel", "operate", "(IJJ)J"⟩ : MethodName).cls ≠ "java/lang/invoke/VarHandle" ∧ (parseMethodDescriptor (⟨"CensusWalkModel", "operate", "(IJJ)J"⟩ : MethodName).desc).map (fun d => d.parameters.length) = some 3 := by decide +kernel
def wp_X11_operate_44 (E : ms_En) (a0 : Int32) (a1 : Int64) (a3 : Int64) (post : Int64 → ms_St → Prop)  (u : ms_St) (z0 : Int64) : Prop := wp_X11_limited E u z0 (fun r44 u44 => post r44 u44)
set_option maxHeartbeats 4000000 in
set_option maxRecDepth 100000 in
theorem c_X11_operate_44 {p : Program} {l : Launch} {e : Env} {s : State} {m : MethodId} {args : Array Value} {below : List Frame} {meth : Method} {c : Code} {G : va_G} {cy : Nat → ClassId} {A : Nat → Prop} {L : Nat → Nat} {E : ms_En} (C : ms_Cx p m c cX11_operate 5 s args (Cond.code ⟨"CensusWalkModel", "operate", "(IJJ)J"⟩ prog_13_method_39_code 5 (some .long)) "CensusWalkModel" G cy A) (hr : meth.sig.returnType = (some .long)) (hlocks : meth.locks = false) (hE : ms_WT E) {a0 : Int32} {a1 : Int64} {a3 : Int64} {post : Int64 → ms_St → Prop}    (u : ms_St) (z0 : Int64)  (h : wp_X11_operate_44 E a0 a1 a3 post u z0) : ms_At p l e ({ frames := 1, cells := 0, slots := 0, locals := 21 } : Room) s m args below meth c 5 G cy A L 0 0 (ms_QL below args s G cy L E A post 0 0) E u 44 [] [.long z0] := by
  unfold wp_X11_operate_44 at h
  refine a_callSL C (c_X11_limited l G cy L E hE u z0  _ h) kw_7_62 kw_7_63 kw_1_12 kw_7_64 rfl rfl pd_X11_limited ⟨(Nat.le_of_ble_eq_true rfl), (Nat.le_of_ble_eq_true rfl)⟩ dX11_operate_44 rfl (Nat.le_of_ble_eq_true rfl) ⟨(Nat.le_of_ble_eq_true rfl), (Nat.le_of_ble_eq_true rfl)⟩ rfl (fun r44 u44 h => ?_)
  exact a_lret C dX11_operate_47 hr hlocks (Nat.le_of_ble_eq_true rfl) (Nat.le_of_ble_eq_true rfl) h
def wp_X11_operate_18 (E : ms_En) (a0 : Int32) (a1 : Int64) (a3 : Int64) (post : Int64 → ms_St → Prop)  (u : ms_St) (z0 : Int64) : Prop := post z0 u
set_option maxHeartbeats 4000000 in
set_option maxRecDepth 100000 in
theorem c_X11_operate_18 {p : Program} {l : Launch} {e : Env} {s : State} {m : MethodId} {args : Array Value} {below : List Frame} {meth : Method} {c : Code} {G : va_G} {cy : Nat → ClassId} {A : Nat → Prop} {L : Nat → Nat} {E : ms_En} (C : ms_Cx p m c cX11_operate 5 s args (Cond.code ⟨"CensusWalkModel", "operate", "(IJJ)J"⟩ prog_13_method_39_code 5 (some .long)) "CensusWalkModel" G cy A) (hr : meth.sig.returnType = (some .long)) (hlocks : meth.locks = false) (hE : ms_WT E) {a0 : Int32} {a1 : Int64} {a3 : Int64} {post : Int64 → ms_St → Prop}    (u : ms_St) (z0 : Int64)  (h : wp_X11_operate_18 E a0 a1 a3 post u z0) : ms_At p l e ({ frames := 1, cells := 0, slots := 0, locals := 21 } : Room) s m args below meth c 5 G cy A L 0 0 (ms_QL below args s G cy L E A post 0 0) E u 18 [] [.long z0] := by
  unfold wp_X11_operate_18 at h
  exact a_lret C dX11_operate_18 hr hlocks (Nat.le_of_ble_eq_true rfl) (Nat.le_of_ble_eq_true rfl) h
def wp_X11_operate (E : ms_En) (u : ms_St) (a0 : Int32) (a1 : Int64) (a3 : Int64) (post : Int64 → ms_St → Prop) : Prop := (a0 = 5 → ((lg_cmp a3 0) = 0 → wp_X11_operate_18 E a0 a1 a3 post u 0) ∧ (¬ (lg_cmp a3 0) = 0 → ¬ a3 = 0 ∧ (wp_X11_operate_18 E a0 a1 a3 post u (a1 / a3)))) ∧ (¬ a0 = 5 → (a0 = 2 → wp_X11_operate_44 E a0 a1 a3 post u (a1 + a3)) ∧ (¬ a0 = 2 → (a0 = 3 → wp_X11_operate_44 E a0 a1 a3 post u (a1 - a3)) ∧ (¬ a0 = 3 → wp_X11_operate_44 E a0 a1 a3 post u (a1 * a3))))
set_option maxHeartbeats 4000000 in
set_option maxRecDepth 100000 in
theorem c_X11_operate (l : Launch) (G : va_G) (cy : Nat → ClassId) (L : Nat → Nat) (E : ms_En) (hE : ms_WT E) (u : ms_St) (a0 : Int32) (a1 : Int64) (a3 : Int64)  (post : Int64 → ms_St → Prop) (h : wp_X11_operate E u a0 a1 a3 post) : ms_MetL l ⟨"CensusWalkModel", "operate", "(IJJ)J"⟩ (Cond.code ⟨"CensusWalkModel", "operate", "(IJJ)J"⟩ prog_13_method_39_code 5 (some .long) :: lw_g) ({ frames := 1, cells := 0, slots := 0, locals := 21 } : Room) G cy L E [.int a0, .long a1, .long a3] u post 0 0 := by
  refine ms_enterL (lv := [(0, .int a0), (1, .long a1), (3, .long a3)]) (by decide) (Nat.le_of_ble_eq_true rfl) rfl ?_
  intro p e s m args below meth c A C hr hlocks
  unfold wp_X11_operate at h
  refine a_iload_n C dX11_operate_0 rfl 0 rfl rfl ?_
  refine a_iconst (v := 5) C dX11_operate_1 (by decide) rfl ?_
  refine a_icmp_ne (tgt := 19) C dX11_operate_2 (by decide) rfl (fun hc => ?_) (fun hc => ?_)
  · replace h := h.2 hc
    refine a_iload_n C dX11_operate_19 rfl 0 rfl rfl ?_
    refine a_iconst (v := 2) C dX11_operate_20 (by decide) rfl ?_
    refine a_icmp_ne (tgt := 30) C dX11_operate_21 (by decide) rfl (fun hc => ?_) (fun hc => ?_)
    · replace h := h.2 hc
      refine a_iload_n C dX11_operate_30 rfl 0 rfl rfl ?_
      refine a_iconst (v := 3) C dX11_operate_31 (by decide) rfl ?_
      refine a_icmp_ne (tgt := 41) C dX11_operate_32 (by decide) rfl (fun hc => ?_) (fun hc => ?_)
      · replace h := h.2 hc
        refine a_lload_n C dX11_operate_41 rfl 1 rfl rfl ?_
        refine a_lload_n C dX11_operate_42 rfl 2 rfl rfl ?_
        refine a_lmul C dX11_operate_43 rfl ?_
        refine a_sub (lv' := []) [] rfl ?_
        exact c_X11_operate_44 C hr hlocks hE   u (a1 * a3)  h
      · replace h := h.1 hc
        refine a_lload_n C dX11_operate_35 rfl 1 rfl rfl ?_
        refine a_lload_n C dX11_operate_36 rfl 2 rfl rfl ?_
        refine a_lsub C dX11_operate_37 rfl ?_
        refine a_goto (tgt := 44) C dX11_operate_38 (by decide) ?_
        refine a_sub (lv' := []) [] rfl ?_
        exact c_X11_operate_44 C hr hlocks hE   u (a1 - a3)  h
    · replace h := h.1 hc
      refine a_lload_n C dX11_operate_24 rfl 1 rfl rfl ?_
      refine a_lload_n C dX11_operate_25 rfl 2 rfl rfl ?_
      refine a_ladd C dX11_operate_26 rfl ?_
      refine a_goto (tgt := 44) C dX11_operate_27 (by decide) ?_
      refine a_sub (lv' := []) [] rfl ?_
      exact c_X11_operate_44 C hr hlocks hE   u (a1 + a3)  h
  · replace h := h.1 hc
    refine a_lload_n C dX11_operate_5 rfl 2 rfl rfl ?_
    refine a_lconst (v := 0) C dX11_operate_6 (by decide) rfl ?_
    refine a_lcmp C dX11_operate_7 rfl ?_
    refine a_if_ne (tgt := 15) C dX11_operate_8 (by decide) rfl (fun hc => ?_) (fun hc => ?_)
    · replace h := h.2 hc
      refine a_lload_n C dX11_operate_15 rfl 1 rfl rfl ?_
      refine a_lload_n C dX11_operate_16 rfl 2 rfl rfl ?_
      obtain ⟨q17, h⟩ := h
      refine a_ldiv C dX11_operate_17 q17 rfl ?_
      refine a_sub (lv' := []) [] rfl ?_
      exact c_X11_operate_18 C hr hlocks hE   u (a1 / a3)  h
    · replace h := h.1 hc
      refine a_lconst (v := 0) C dX11_operate_11 (by decide) rfl ?_
      refine a_goto (tgt := 18) C dX11_operate_12 (by decide) ?_
      refine a_sub (lv' := []) [] rfl ?_
      exact c_X11_operate_18 C hr hlocks hE   u 0  h

/-! CensusWalkModel.visit(II)I -/
theorem pd_X11_visit : (⟨"CensusWalkModel", "visit", "(II)I"⟩ : MethodName).cls = "CensusWalkModel" ∧ (⟨"CensusWalkModel", "visit", "(II)I"⟩ : MethodName).cls ≠ "java/lang/invoke/MethodHandle" ∧ (⟨"CensusWalkModel", "visit", "(II)I"⟩ : MethodName).cls ≠ "java/lang/invoke/VarHandle" ∧ (parseMethodDescriptor (⟨"CensusWalkModel", "visit", "(II)I"⟩ : MethodName).desc).map (fun d => d.parameters.length) = some 2 := by decide +kernel
def wp_X11_visit_209 (E : ms_En) (o : Nat) (a1 : Int32) (a2 : Int32) (post : Int32 → ms_St → Prop)  (u : ms_St) (z0 : Int32) : Prop := post z0 u
set_option maxHeartbeats 4000000 in
set_option maxRecDepth 100000 in
theorem c_X11_visit_209 {p : Program} {l : Launch} {e : Env} {s : State} {m : MethodId} {args : Array Value} {below : List Frame} {meth : Method} {c : Code} {G : va_G} {cy : Nat → ClassId} {A : Nat → Prop} {L : Nat → Nat} {E : ms_En} (C : ms_Cx p m c cX11_visit 7 s args (Cond.code ⟨"CensusWalkModel", "visit", "(II)I"⟩ prog_13_method_40_code 7 (some .int)) "CensusWalkModel" G cy A) (hr : meth.sig.returnType = (some .int)) (hlocks : meth.locks = false) (hE : ms_WT E) {o : Nat} {a1 : Int32} {a2 : Int32} {post : Int32 → ms_St → Prop}  (ho : ms_is E o 11)  (u : ms_St) (z0 : Int32)  (h : wp_X11_visit_209 E o a1 a2 post u z0) : ms_At p l e ({ frames := 2, cells := 0, slots := 0, locals := 45 } : Room) s m args below meth c 7 G cy A L 0 0 (ms_QI below args s G cy L E A post 0 0) E u 209 [] [.int z0] := by
  unfold wp_X11_visit_209 at h
  exact a_iret C dX11_visit_209 hr hlocks (Nat.le_of_ble_eq_true rfl) (Nat.le_of_ble_eq_true rfl) h
def wp_X11_visit_162 (E : ms_En) (o : Nat) (a1 : Int32) (a2 : Int32) (post : Int32 → ms_St → Prop) (k18 : ms_St → Int32 → Int32 → Prop) (u : ms_St) (x3 : Int32) (x4 : Int32) : Prop := k18 u x3 (x4 + 1)
set_option maxHeartbeats 4000000 in
set_option maxRecDepth 100000 in
theorem c_X11_visit_162 {p : Program} {l : Launch} {e : Env} {s : State} {m : MethodId} {args : Array Value} {below : List Frame} {meth : Method} {c : Code} {G : va_G} {cy : Nat → ClassId} {A : Nat → Prop} {L : Nat → Nat} {E : ms_En} (C : ms_Cx p m c cX11_visit 7 s args (Cond.code ⟨"CensusWalkModel", "visit", "(II)I"⟩ prog_13_method_40_code 7 (some .int)) "CensusWalkModel" G cy A) (hr : meth.sig.returnType = (some .int)) (hlocks : meth.locks = false) (hE : ms_WT E) {o : Nat} {a1 : Int32} {a2 : Int32} {post : Int32 → ms_St → Prop} {k18 : ms_St → Int32 → Int32 → Prop} (ho : ms_is E o 11) (hk18 : ∀ (u : ms_St) (x3 : Int32) (x4 : Int32), k18 u x3 x4 → ms_At p l e ({ frames := 2, cells := 0, slots := 0, locals := 45 } : Room) s m args below meth c 7 G cy A L 0 0 (ms_QI below args s G cy L E A post 0 0) E u 18 [(0, .ref (L o)), (1, .int a1), (2, .int a2), (3, .int x3), (4, .int x4)] []) (u : ms_St) (x3 : Int32) (x4 : Int32)  (h : wp_X11_visit_162 E o a1 a2 post k18 u x3 x4) : ms_At p l e ({ frames := 2, cells := 0, slots := 0, locals := 45 } : Room) s m args below meth c 7 G cy A L 0 0 (ms_QI below args s G cy L E A post 0 0) E u 162 [(0, .ref (L o)), (1, .int a1), (2, .int a2), (3, .int x3), (4, .int x4)] [] := by
  unfold wp_X11_visit_162 at h
  refine a_iinc (lv' := [(0, .ref (L o)), (1, .int a1), (2, .int a2), (3, .int x3), (4, .int (x4 + 1))]) (v := (x4 + 1)) C dX11_visit_162 4 rfl (congrArg (fun z => x4 + z) (by decide)) (by decide) [1, 2, 3, 4, 0] rfl rfl ?_
  refine a_goto (tgt := 18) C dX11_visit_165 (by decide) ?_
  exact hk18 u x3 (x4 + 1)  h
def wp_X11_visit_125 (E : ms_En) (o : Nat) (a1 : Int32) (a2 : Int32) (post : Int32 → ms_St → Prop) (k18 : ms_St → Int32 → Int32 → Prop) (u : ms_St) (x3 : Int32) (x4 : Int32) (z0 : Int64) (z1 : Int32) (z2 : Nat) : Prop := vp_in z1 1400 ∧ (wp_X11_visit_162 E o a1 a2 post k18 (ms_sJ u z2 (Int32.toNatClampNeg z1) z0) (x3 + 1) x4)
set_option maxHeartbeats 4000000 in
set_option maxRecDepth 100000 in
theorem c_X11_visit_125 {p : Program} {l : Launch} {e : Env} {s : State} {m : MethodId} {args : Array Value} {below : List Frame} {meth : Method} {c : Code} {G : va_G} {cy : Nat → ClassId} {A : Nat → Prop} {L : Nat → Nat} {E : ms_En} (C : ms_Cx p m c cX11_visit 7 s args (Cond.code ⟨"CensusWalkModel", "visit", "(II)I"⟩ prog_13_method_40_code 7 (some .int)) "CensusWalkModel" G cy A) (hr : meth.sig.returnType = (some .int)) (hlocks : meth.locks = false) (hE : ms_WT E) {o : Nat} {a1 : Int32} {a2 : Int32} {post : Int32 → ms_St → Prop} {k18 : ms_St → Int32 → Int32 → Prop} (ho : ms_is E o 11) (hk18 : ∀ (u : ms_St) (x3 : Int32) (x4 : Int32), k18 u x3 x4 → ms_At p l e ({ frames := 2, cells := 0, slots := 0, locals := 45 } : Room) s m args below meth c 7 G cy A L 0 0 (ms_QI below args s G cy L E A post 0 0) E u 18 [(0, .ref (L o)), (1, .int a1), (2, .int a2), (3, .int x3), (4, .int x4)] []) (u : ms_St) (x3 : Int32) (x4 : Int32) (z0 : Int64) (z1 : Int32) (z2 : Nat) (k_z2 : ms_is E z2 14) (n_z2 : ms_N E z2 = 1400) (h : wp_X11_visit_125 E o a1 a2 post k18 u x3 x4 z0 z1 z2) : ms_At p l e ({ frames := 2, cells := 0, slots := 0, locals := 45 } : Room) s m args below meth c 7 G cy A L 0 0 (ms_QI below args s G cy L E A post 0 0) E u 125 [(0, .ref (L o)), (1, .int a1), (2, .int a2), (3, .int x3), (4, .int x4)] [.long z0, .int z1, .ref (L z2)] := by
  unfold wp_X11_visit_125 at h
  obtain ⟨q125, h⟩ := h
  refine a_last C dX11_visit_125 k_z2 n_z2 q125 rfl ?_
  refine a_iinc (lv' := [(0, .ref (L o)), (1, .int a1), (2, .int a2), (3, .int (x3 + 1)), (4, .int x4)]) (v := (x3 + 1)) C dX11_visit_126 3 rfl (congrArg (fun z => x3 + z) (by decide)) (by decide) [1, 2, 3, 0, 4] rfl rfl ?_
  refine a_goto (tgt := 162) C dX11_visit_129 (by decide) ?_
  exact c_X11_visit_162 C hr hlocks hE ho hk18 (ms_sJ u z2 (Int32.toNatClampNeg z1) z0) (x3 + 1) x4  h
def wp_X11_visit_18 (E : ms_En) (o : Nat) (a1 : Int32) (a2 : Int32) (post : Int32 → ms_St → Prop)  : Nat → ms_St → Int32 → Int32 → Prop
  | 0 => fun _ _ _ => False
  | n + 1 => fun u x3 x4 => vp_in 7 1613 ∧ (((ms_I u (ms_at E o 8) (Int32.toNatClampNeg 7)) ≤ x4 → vp_in 0 1400 ∧ ((0 ≤ (lg_cmp (ms_J u (ms_at E o 16) (Int32.toNatClampNeg 0)) 1) → vp_in 0 1400 ∧ (((lg_cmp (ms_J u (ms_at E o 16) (Int32.toNatClampNeg 0)) 240) ≤ 0 → vp_in 0 1400 ∧ (wp_X11_visit_209 E o a1 a2 post u (Int64.toInt32 (ms_J u (ms_at E o 16) (Int32.toNatClampNeg 0))))) ∧ (¬ (lg_cmp (ms_J u (ms_at E o 16) (Int32.toNatClampNeg 0)) 240) ≤ 0 → wp_X11_visit_209 E o a1 a2 post u 240))) ∧ (¬ 0 ≤ (lg_cmp (ms_J u (ms_at E o 16) (Int32.toNatClampNeg 0)) 1) → wp_X11_visit_209 E o a1 a2 post u 1))) ∧ (¬ (ms_I u (ms_at E o 8) (Int32.toNatClampNeg 7)) ≤ x4 → vp_in (213 + x4) 1613 ∧ (∀ v41 : Int32, v41 = (ms_I u (ms_at E o 8) (Int32.toNatClampNeg (213 + x4))) → ((1 < v41 → vp_in ((x3 + (-1)) - 1) 1400 ∧ (vp_in (x3 + (-1)) 1400 ∧ (wp_X11_operate E u v41 (ms_J u (ms_at E o 16) (Int32.toNatClampNeg ((x3 + (-1)) - 1))) (ms_J u (ms_at E o 16) (Int32.toNatClampNeg (x3 + (-1)))) (fun r158 u158 => vp_in ((x3 + (-1)) - 1) 1400 ∧ (wp_X11_visit_162 E o a1 a2 post (wp_X11_visit_18 E o a1 a2 post n) (ms_sJ u158 (ms_at E o 16) (Int32.toNatClampNeg ((x3 + (-1)) - 1)) r158) (x3 + (-1)) x4))))) ∧ (¬ 1 < v41 → vp_in (213 + (x4 + 1)) 1613 ∧ (∀ v63 : Int32, v63 = (ms_I u (ms_at E o 8) (Int32.toNatClampNeg (213 + (x4 + 1)))) → ((v41 = 0 → wp_X11_visit_125 E o a1 a2 post (wp_X11_visit_18 E o a1 a2 post n) u x3 (x4 + 1) (Int32.toInt64 v63) x3 (ms_at E o 16)) ∧ (¬ v41 = 0 → (v63 = 0 → wp_X11_house E u a1 (fun r91 u91 => vp_in (r91 + 3) 1613 ∧ (wp_X11_visit_125 E o a1 a2 post (wp_X11_visit_18 E o a1 a2 post n) u91 x3 (x4 + 1) (Int32.toInt64 (ms_I u91 (ms_at E o 8) (Int32.toNatClampNeg (r91 + 3)))) x3 (ms_at E o 16)))) ∧ (¬ v63 = 0 → (v63 = 1 → wp_X11_house E u a1 (fun r112 u112 => vp_in (r112 + 6) 1613 ∧ (wp_X11_visit_125 E o a1 a2 post (wp_X11_visit_18 E o a1 a2 post n) u112 x3 (x4 + 1) (Int32.toInt64 (ms_I u112 (ms_at E o 8) (Int32.toNatClampNeg (r112 + 6)))) x3 (ms_at E o 16)))) ∧ (¬ v63 = 1 → wp_X11_visit_125 E o a1 a2 post (wp_X11_visit_18 E o a1 a2 post n) u x3 (x4 + 1) (Int32.toInt64 a2) x3 (ms_at E o 16)))))))))))
set_option maxHeartbeats 4000000 in
set_option maxRecDepth 100000 in
theorem c_X11_visit_18 {p : Program} {l : Launch} {e : Env} {s : State} {m : MethodId} {args : Array Value} {below : List Frame} {meth : Method} {c : Code} {G : va_G} {cy : Nat → ClassId} {A : Nat → Prop} {L : Nat → Nat} {E : ms_En} (C : ms_Cx p m c cX11_visit 7 s args (Cond.code ⟨"CensusWalkModel", "visit", "(II)I"⟩ prog_13_method_40_code 7 (some .int)) "CensusWalkModel" G cy A) (hr : meth.sig.returnType = (some .int)) (hlocks : meth.locks = false) (hE : ms_WT E) {o : Nat} {a1 : Int32} {a2 : Int32} {post : Int32 → ms_St → Prop}  (ho : ms_is E o 11)  : ∀ (n : Nat) (u : ms_St) (x3 : Int32) (x4 : Int32), wp_X11_visit_18 E o a1 a2 post n u x3 x4 → ms_At p l e ({ frames := 2, cells := 0, slots := 0, locals := 45 } : Room) s m args below meth c 7 G cy A L 0 0 (ms_QI below args s G cy L E A post 0 0) E u 18 [(0, .ref (L o)), (1, .int a1), (2, .int a2), (3, .int x3), (4, .int x4)] [] := by
  intro n
  induction n with
  | zero =>
    intro u x3 x4  h
    exact absurd h id
  | succ n ih =>
    intro u x3 x4  h
    unfold wp_X11_visit_18 at h
    refine a_iload C dX11_visit_18 4 rfl rfl ?_
    refine a_aload_n C dX11_visit_20 rfl 0 rfl rfl ?_
    refine g_11_8 C hE dX11_visit_21 ho kw_5_230 rfl ?_
    have k21 : ms_is E (ms_at E o 8) 13 := ms_wt hE ho rfl (by decide)
    have n21 : ms_N E (ms_at E o 8) = 1613 := ms_wl hE ho (by decide) (by decide) rfl
    refine a_bipush (v := 7) C dX11_visit_24 (by decide) rfl ?_
    obtain ⟨q26, h⟩ := h
    refine a_iald C dX11_visit_26 k21 n21 q26 rfl ?_
    refine a_icmp_ge (tgt := 168) C dX11_visit_27 (by decide) rfl (fun hc => ?_) (fun hc => ?_)
    · replace h := h.1 hc
      refine a_aload_n C dX11_visit_168 rfl 0 rfl rfl ?_
      refine g_11_16 C hE dX11_visit_169 ho kw_5_238 rfl ?_
      have k169 : ms_is E (ms_at E o 16) 14 := ms_wt hE ho rfl (by decide)
      have n169 : ms_N E (ms_at E o 16) = 1400 := ms_wl hE ho (by decide) (by decide) rfl
      refine a_iconst (v := 0) C dX11_visit_172 (by decide) rfl ?_
      obtain ⟨q173, h⟩ := h
      refine a_lald C dX11_visit_173 k169 n169 q173 rfl ?_
      refine a_lconst (v := 1) C dX11_visit_174 (by decide) rfl ?_
      refine a_lcmp C dX11_visit_175 rfl ?_
      refine a_if_ge (tgt := 183) C dX11_visit_176 (by decide) rfl (fun hc => ?_) (fun hc => ?_)
      · replace h := h.1 hc
        refine a_aload_n C dX11_visit_183 rfl 0 rfl rfl ?_
        refine g_11_16 C hE dX11_visit_184 ho kw_5_238 rfl ?_
        refine a_iconst (v := 0) C dX11_visit_187 (by decide) rfl ?_
        obtain ⟨q188, h⟩ := h
        refine a_lald C dX11_visit_188 k169 n169 q188 rfl ?_
        refine a_ldc2 (v := 240) C dX11_visit_189 kw_7_67 rfl ?_
        refine a_lcmp C dX11_visit_192 rfl ?_
        refine a_if_le (tgt := 202) C dX11_visit_193 (by decide) rfl (fun hc => ?_) (fun hc => ?_)
        · replace h := h.1 hc
          refine a_aload_n C dX11_visit_202 rfl 0 rfl rfl ?_
          refine g_11_16 C hE dX11_visit_203 ho kw_5_238 rfl ?_
          refine a_iconst (v := 0) C dX11_visit_206 (by decide) rfl ?_
          obtain ⟨q207, h⟩ := h
          refine a_lald C dX11_visit_207 k169 n169 q207 rfl ?_
          refine a_l2i C dX11_visit_208 rfl ?_
          refine a_sub (lv' := []) [] rfl ?_
          exact c_X11_visit_209 C hr hlocks hE ho  u (Int64.toInt32 (ms_J u (ms_at E o 16) (Int32.toNatClampNeg 0)))  h
        · replace h := h.2 hc
          refine a_sipush (v := 240) C dX11_visit_196 (by decide) rfl ?_
          refine a_goto (tgt := 209) C dX11_visit_199 (by decide) ?_
          refine a_sub (lv' := []) [] rfl ?_
          exact c_X11_visit_209 C hr hlocks hE ho  u 240  h
      · replace h := h.2 hc
        refine a_iconst (v := 1) C dX11_visit_179 (by decide) rfl ?_
        refine a_goto (tgt := 209) C dX11_visit_180 (by decide) ?_
        refine a_sub (lv' := []) [] rfl ?_
        exact c_X11_visit_209 C hr hlocks hE ho  u 1  h
    · replace h := h.2 hc
      refine a_aload_n C dX11_visit_30 rfl 0 rfl rfl ?_
      refine g_11_8 C hE dX11_visit_31 ho kw_5_230 rfl ?_
      refine a_sipush (v := 213) C dX11_visit_34 (by decide) rfl ?_
      refine a_iload C dX11_visit_37 4 rfl rfl ?_
      refine a_iadd C dX11_visit_39 rfl ?_
      obtain ⟨q40, h⟩ := h
      refine a_iald C dX11_visit_40 k21 n21 q40 rfl ?_
      refine a_nmI (fun v41 e41 => ?_)
      replace h := h v41 e41
      refine a_istore (lv' := [(0, .ref (L o)), (1, .int a1), (2, .int a2), (3, .int x3), (4, .int x4), (5, .int v41)]) C dX11_visit_41 (by decide) [1, 2, 3, 4, 5, 0] rfl rfl ?_
      refine a_iload C dX11_visit_43 5 rfl rfl ?_
      refine a_iconst (v := 1) C dX11_visit_45 (by decide) rfl ?_
      refine a_icmp_gt (tgt := 132) C dX11_visit_46 (by decide) rfl (fun hc => ?_) (fun hc => ?_)
      · replace h := h.1 hc
        refine a_iinc (lv' := [(0, .ref (L o)), (1, .int a1), (2, .int a2), (3, .int (x3 + (-1))), (4, .int x4), (5, .int v41)]) (v := (x3 + (-1))) C dX11_visit_132 3 rfl (congrArg (fun z => x3 + z) (by decide)) (by decide) [1, 2, 3, 0, 4, 5] rfl rfl ?_
        refine a_aload_n C dX11_visit_135 rfl 0 rfl rfl ?_
        refine g_11_16 C hE dX11_visit_136 ho kw_5_238 rfl ?_
        have k136 : ms_is E (ms_at E o 16) 14 := ms_wt hE ho rfl (by decide)
        have n136 : ms_N E (ms_at E o 16) = 1400 := ms_wl hE ho (by decide) (by decide) rfl
        refine a_iload_n C dX11_visit_139 rfl 3 rfl rfl ?_
        refine a_iconst (v := 1) C dX11_visit_140 (by decide) rfl ?_
        refine a_isub C dX11_visit_141 rfl ?_
        refine a_iload C dX11_visit_142 5 rfl rfl ?_
        refine a_aload_n C dX11_visit_144 rfl 0 rfl rfl ?_
        refine g_11_16 C hE dX11_visit_145 ho kw_5_238 rfl ?_
        refine a_iload_n C dX11_visit_148 rfl 3 rfl rfl ?_
        refine a_iconst (v := 1) C dX11_visit_149 (by decide) rfl ?_
        refine a_isub C dX11_visit_150 rfl ?_
        obtain ⟨q151, h⟩ := h
        refine a_lald C dX11_visit_151 k136 n136 q151 rfl ?_
        refine a_aload_n C dX11_visit_152 rfl 0 rfl rfl ?_
        refine g_11_16 C hE dX11_visit_153 ho kw_5_238 rfl ?_
        refine a_iload_n C dX11_visit_156 rfl 3 rfl rfl ?_
        obtain ⟨q157, h⟩ := h
        refine a_lald C dX11_visit_157 k136 n136 q157 rfl ?_
        refine a_callSL C (c_X11_operate l G cy L E hE u v41 (ms_J u (ms_at E o 16) (Int32.toNatClampNeg ((x3 + (-1)) - 1))) (ms_J u (ms_at E o 16) (Int32.toNatClampNeg (x3 + (-1))))  _ h) kw_7_59 kw_7_60 kw_1_12 kw_7_61 rfl rfl pd_X11_operate ⟨(Nat.le_of_ble_eq_true rfl), (Nat.le_of_ble_eq_true rfl)⟩ dX11_visit_158 rfl (Nat.le_of_ble_eq_true rfl) ⟨(Nat.le_of_ble_eq_true rfl), (Nat.le_of_ble_eq_true rfl)⟩ rfl (fun r158 u158 h => ?_)
        obtain ⟨q161, h⟩ := h
        refine a_last C dX11_visit_161 k136 n136 q161 rfl ?_
        refine a_sub (lv' := [(0, .ref (L o)), (1, .int a1), (2, .int a2), (3, .int (x3 + (-1))), (4, .int x4)]) [0, 1, 2, 3, 4] rfl ?_
        exact c_X11_visit_162 C hr hlocks hE ho ih (ms_sJ u158 (ms_at E o 16) (Int32.toNatClampNeg ((x3 + (-1)) - 1)) r158) (x3 + (-1)) x4  h
      · replace h := h.2 hc
        refine a_iinc (lv' := [(0, .ref (L o)), (1, .int a1), (2, .int a2), (3, .int x3), (4, .int (x4 + 1)), (5, .int v41)]) (v := (x4 + 1)) C dX11_visit_49 4 rfl (congrArg (fun z => x4 + z) (by decide)) (by decide) [1, 2, 3, 4, 0, 5] rfl rfl ?_
        refine a_aload_n C dX11_visit_52 rfl 0 rfl rfl ?_
        refine g_11_8 C hE dX11_visit_53 ho kw_5_230 rfl ?_
        refine a_sipush (v := 213) C dX11_visit_56 (by decide) rfl ?_
        refine a_iload C dX11_visit_59 4 rfl rfl ?_
        refine a_iadd C dX11_visit_61 rfl ?_
        obtain ⟨q62, h⟩ := h
        refine a_iald C dX11_visit_62 k21 n21 q62 rfl ?_
        refine a_nmI (fun v63 e63 => ?_)
        replace h := h v63 e63
        refine a_istore (lv' := [(0, .ref (L o)), (1, .int a1), (2, .int a2), (3, .int x3), (4, .int (x4 + 1)), (5, .int v41), (6, .int v63)]) C dX11_visit_63 (by decide) [1, 2, 3, 4, 5, 6, 0] rfl rfl ?_
        refine a_aload_n C dX11_visit_65 rfl 0 rfl rfl ?_
        refine g_11_16 C hE dX11_visit_66 ho kw_5_238 rfl ?_
        have k66 : ms_is E (ms_at E o 16) 14 := ms_wt hE ho rfl (by decide)
        have n66 : ms_N E (ms_at E o 16) = 1400 := ms_wl hE ho (by decide) (by decide) rfl
        refine a_iload_n C dX11_visit_69 rfl 3 rfl rfl ?_
        refine a_iload C dX11_visit_70 5 rfl rfl ?_
        refine a_if_ne (tgt := 81) C dX11_visit_72 (by decide) rfl (fun hc => ?_) (fun hc => ?_)
        · replace h := h.2 hc
          refine a_iload C dX11_visit_81 6 rfl rfl ?_
          refine a_if_ne (tgt := 101) C dX11_visit_83 (by decide) rfl (fun hc => ?_) (fun hc => ?_)
          · replace h := h.2 hc
            refine a_iload C dX11_visit_101 6 rfl rfl ?_
            refine a_iconst (v := 1) C dX11_visit_103 (by decide) rfl ?_
            refine a_icmp_ne (tgt := 123) C dX11_visit_104 (by decide) rfl (fun hc => ?_) (fun hc => ?_)
            · replace h := h.2 hc
              refine a_iload_n C dX11_visit_123 rfl 2 rfl rfl ?_
              refine a_i2l C dX11_visit_124 rfl ?_
              refine a_sub (lv' := [(0, .ref (L o)), (1, .int a1), (2, .int a2), (3, .int x3), (4, .int (x4 + 1))]) [0, 1, 2, 3, 4] rfl ?_
              exact c_X11_visit_125 C hr hlocks hE ho ih u x3 (x4 + 1) (Int32.toInt64 a2) x3 (ms_at E o 16) k66 n66 h
            · replace h := h.1 hc
              refine a_aload_n C dX11_visit_107 rfl 0 rfl rfl ?_
              refine g_11_8 C hE dX11_visit_108 ho kw_5_230 rfl ?_
              refine a_iload_n C dX11_visit_111 rfl 1 rfl rfl ?_
              refine a_callSI C (c_X11_house l G cy L E hE u a1  _ h) kw_6_160 kw_6_161 kw_1_12 kw_6_162 rfl rfl pd_X11_house ⟨(Nat.le_of_ble_eq_true rfl), (Nat.le_of_ble_eq_true rfl)⟩ dX11_visit_112 rfl (Nat.le_of_ble_eq_true rfl) ⟨(Nat.le_of_ble_eq_true rfl), (Nat.le_of_ble_eq_true rfl)⟩ rfl (fun r112 u112 h => ?_)
              refine a_bipush (v := 6) C dX11_visit_115 (by decide) rfl ?_
              refine a_iadd C dX11_visit_117 rfl ?_
              obtain ⟨q118, h⟩ := h
              refine a_iald C dX11_visit_118 k21 n21 q118 rfl ?_
              refine a_i2l C dX11_visit_119 rfl ?_
              refine a_goto (tgt := 125) C dX11_visit_120 (by decide) ?_
              refine a_sub (lv' := [(0, .ref (L o)), (1, .int a1), (2, .int a2), (3, .int x3), (4, .int (x4 + 1))]) [0, 1, 2, 3, 4] rfl ?_
              exact c_X11_visit_125 C hr hlocks hE ho ih u112 x3 (x4 + 1) (Int32.toInt64 (ms_I u112 (ms_at E o 8) (Int32.toNatClampNeg (r112 + 6)))) x3 (ms_at E o 16) k66 n66 h
          · replace h := h.1 hc
            refine a_aload_n C dX11_visit_86 rfl 0 rfl rfl ?_
            refine g_11_8 C hE dX11_visit_87 ho kw_5_230 rfl ?_
            refine a_iload_n C dX11_visit_90 rfl 1 rfl rfl ?_
            refine a_callSI C (c_X11_house l G cy L E hE u a1  _ h) kw_6_160 kw_6_161 kw_1_12 kw_6_162 rfl rfl pd_X11_house ⟨(Nat.le_of_ble_eq_true rfl), (Nat.le_of_ble_eq_true rfl)⟩ dX11_visit_91 rfl (Nat.le_of_ble_eq_true rfl) ⟨(Nat.le_of_ble_eq_true rfl), (Nat.le_of_ble_eq_true rfl)⟩ rfl (fun r91 u91 h => ?_)
            refine a_iconst (v := 3) C dX11_visit_94 (by decide) rfl ?_
            refine a_iadd C dX11_visit_95 rfl ?_
            obtain ⟨q96, h⟩ := h
            refine a_iald C dX11_visit_96 k21 n21 q96 rfl ?_
            refine a_i2l C dX11_visit_97 rfl ?_
            refine a_goto (tgt := 125) C dX11_visit_98 (by decide) ?_
            refine a_sub (lv' := [(0, .ref (L o)), (1, .int a1), (2, .int a2), (3, .int x3), (4, .int (x4 + 1))]) [0, 1, 2, 3, 4] rfl ?_
            exact c_X11_visit_125 C hr hlocks hE ho ih u91 x3 (x4 + 1) (Int32.toInt64 (ms_I u91 (ms_at E o 8) (Int32.toNatClampNeg (r91 + 3)))) x3 (ms_at E o 16) k66 n66 h
        · replace h := h.1 hc
          refine a_iload C dX11_visit_75 6 rfl rfl ?_
          refine a_i2l C dX11_visit_77 rfl ?_
          refine a_goto (tgt := 125) C dX11_visit_78 (by decide) ?_
          refine a_sub (lv' := [(0, .ref (L o)), (1, .int a1), (2, .int a2), (3, .int x3), (4, .int (x4 + 1))]) [0, 1, 2, 3, 4] rfl ?_
          exact c_X11_visit_125 C hr hlocks hE ho ih u x3 (x4 + 1) (Int32.toInt64 v63) x3 (ms_at E o 16) k66 n66 h
def wp_X11_visit (E : ms_En) (u : ms_St) (o : Nat) (a1 : Int32) (a2 : Int32) (post : Int32 → ms_St → Prop) : Prop := vp_in 6 1613 ∧ (((ms_I u (ms_at E o 8) (Int32.toNatClampNeg 6)) = 0 → post 10 u) ∧ (¬ (ms_I u (ms_at E o 8) (Int32.toNatClampNeg 6)) = 0 → ∃ n18, wp_X11_visit_18 E o a1 a2 post n18 u 0 0))
set_option maxHeartbeats 4000000 in
set_option maxRecDepth 100000 in
theorem c_X11_visit (l : Launch) (G : va_G) (cy : Nat → ClassId) (L : Nat → Nat) (E : ms_En) (hE : ms_WT E) (u : ms_St) (o : Nat) (a1 : Int32) (a2 : Int32) (ho : ms_is E o 11) (post : Int32 → ms_St → Prop) (h : wp_X11_visit E u o a1 a2 post) : ms_MetI l ⟨"CensusWalkModel", "visit", "(II)I"⟩ (Cond.code ⟨"CensusWalkModel", "visit", "(II)I"⟩ prog_13_method_40_code 7 (some .int) :: lw_g) ({ frames := 2, cells := 0, slots := 0, locals := 45 } : Room) G cy L E [.ref (L o), .int a1, .int a2] u post 0 0 := by
  refine ms_enterI (lv := [(0, .ref (L o)), (1, .int a1), (2, .int a2)]) (by decide) (Nat.le_of_ble_eq_true rfl) rfl ?_
  intro p e s m args below meth c A C hr hlocks
  unfold wp_X11_visit at h
  refine a_aload_n C dX11_visit_0 rfl 0 rfl rfl ?_
  refine g_11_8 C hE dX11_visit_1 ho kw_5_230 rfl ?_
  have k1 : ms_is E (ms_at E o 8) 13 := ms_wt hE ho rfl (by decide)
  have n1 : ms_N E (ms_at E o 8) = 1613 := ms_wl hE ho (by decide) (by decide) rfl
  refine a_bipush (v := 6) C dX11_visit_4 (by decide) rfl ?_
  obtain ⟨q6, h⟩ := h
  refine a_iald C dX11_visit_6 k1 n1 q6 rfl ?_
  refine a_if_ne (tgt := 13) C dX11_visit_7 (by decide) rfl (fun hc => ?_) (fun hc => ?_)
  · replace h := h.2 hc
    refine a_iconst (v := 0) C dX11_visit_13 (by decide) rfl ?_
    refine a_istore_n (lv' := [(0, .ref (L o)), (1, .int a1), (2, .int a2), (3, .int 0)]) C dX11_visit_14 rfl (by decide) [1, 2, 3, 0] rfl rfl ?_
    refine a_iconst (v := 0) C dX11_visit_15 (by decide) rfl ?_
    refine a_istore (lv' := [(0, .ref (L o)), (1, .int a1), (2, .int a2), (3, .int 0), (4, .int 0)]) C dX11_visit_16 (by decide) [1, 2, 3, 4, 0] rfl rfl ?_
    obtain ⟨n9, h⟩ := h
    exact c_X11_visit_18 C hr hlocks hE ho  n9 u 0 0  h
  · replace h := h.1 hc
    refine a_bipush (v := 10) C dX11_visit_10 (by decide) rfl ?_
    exact a_iret C dX11_visit_12 hr hlocks (Nat.le_of_ble_eq_true rfl) (Nat.le_of_ble_eq_true rfl) h

/-! CensusWalkModel.home(II)Z -/
theorem pd_X11_home : (⟨"CensusWalkModel", "home", "(II)Z"⟩ : MethodName).cls = "CensusWalkModel" ∧ (⟨"CensusWalkModel", "home", "(II)Z"⟩ : MethodName).cls ≠ "java/lang/invoke/MethodHandle" ∧ (⟨"CensusWalkModel", "home", "(II)Z"⟩ : MethodName).cls ≠ "java/lang/invoke/VarHandle" ∧ (parseMethodDescriptor (⟨"CensusWalkModel", "home", "(II)Z"⟩ : MethodName).desc).map (fun d => d.parameters.length) = some 2 := by decide +kernel
def wp_X11_home_35 (E : ms_En) (o : Nat) (a1 : Int32) (a2 : Int32) (post : Int32 → ms_St → Prop)  (u : ms_St) (z0 : Int32) : Prop := (z0 = 0 ∨ z0 = 1) ∧ (post z0 u)
set_option maxHeartbeats 4000000 in
set_option maxRecDepth 100000 in
theorem c_X11_home_35 {p : Program} {l : Launch} {e : Env} {s : State} {m : MethodId} {args : Array Value} {below : List Frame} {meth : Method} {c : Code} {G : va_G} {cy : Nat → ClassId} {A : Nat → Prop} {L : Nat → Nat} {E : ms_En} (C : ms_Cx p m c cX11_home 3 s args (Cond.code ⟨"CensusWalkModel", "home", "(II)Z"⟩ prog_13_method_41_code 3 (some .boolean)) "CensusWalkModel" G cy A) (hr : meth.sig.returnType = (some .boolean)) (hlocks : meth.locks = false) (hE : ms_WT E) {o : Nat} {a1 : Int32} {a2 : Int32} {post : Int32 → ms_St → Prop}  (ho : ms_is E o 11)  (u : ms_St) (z0 : Int32)  (h : wp_X11_home_35 E o a1 a2 post u z0) : ms_At p l e ({ frames := 1, cells := 0, slots := 0, locals := 20 } : Room) s m args below meth c 3 G cy A L 0 0 (ms_QI below args s G cy L E A post 0 0) E u 35 [] [.int z0] := by
  unfold wp_X11_home_35 at h
  obtain ⟨q35, h⟩ := h
  exact a_zret C dX11_home_35 hr hlocks (Nat.le_of_ble_eq_true rfl) (Nat.le_of_ble_eq_true rfl) (ms_nz q35) h
def wp_X11_home_34 (E : ms_En) (o : Nat) (a1 : Int32) (a2 : Int32) (post : Int32 → ms_St → Prop)  (u : ms_St)  : Prop := wp_X11_home_35 E o a1 a2 post u 0
set_option maxHeartbeats 4000000 in
set_option maxRecDepth 100000 in
theorem c_X11_home_34 {p : Program} {l : Launch} {e : Env} {s : State} {m : MethodId} {args : Array Value} {below : List Frame} {meth : Method} {c : Code} {G : va_G} {cy : Nat → ClassId} {A : Nat → Prop} {L : Nat → Nat} {E : ms_En} (C : ms_Cx p m c cX11_home 3 s args (Cond.code ⟨"CensusWalkModel", "home", "(II)Z"⟩ prog_13_method_41_code 3 (some .boolean)) "CensusWalkModel" G cy A) (hr : meth.sig.returnType = (some .boolean)) (hlocks : meth.locks = false) (hE : ms_WT E) {o : Nat} {a1 : Int32} {a2 : Int32} {post : Int32 → ms_St → Prop}  (ho : ms_is E o 11)  (u : ms_St)   (h : wp_X11_home_34 E o a1 a2 post u ) : ms_At p l e ({ frames := 1, cells := 0, slots := 0, locals := 20 } : Room) s m args below meth c 3 G cy A L 0 0 (ms_QI below args s G cy L E A post 0 0) E u 34 [] [] := by
  unfold wp_X11_home_34 at h
  refine a_iconst (v := 0) C dX11_home_34 (by decide) rfl ?_
  exact c_X11_home_35 C hr hlocks hE ho  u 0  h
def wp_X11_home (E : ms_En) (u : ms_St) (o : Nat) (a1 : Int32) (a2 : Int32) (post : Int32 → ms_St → Prop) : Prop := wp_X11_house E u a1 (fun r6 u6 => vp_in (r6 + 4) 1613 ∧ ((a2 < (ms_I u6 (ms_at E o 8) (Int32.toNatClampNeg (r6 + 4))) → wp_X11_home_34 E o a1 a2 post u6) ∧ (¬ a2 < (ms_I u6 (ms_at E o 8) (Int32.toNatClampNeg (r6 + 4))) → wp_X11_house E u6 a1 (fun r21 u21 => vp_in (r21 + 5) 1613 ∧ (((ms_I u21 (ms_at E o 8) (Int32.toNatClampNeg (r21 + 5))) ≤ a2 → wp_X11_home_34 E o a1 a2 post u21) ∧ (¬ (ms_I u21 (ms_at E o 8) (Int32.toNatClampNeg (r21 + 5))) ≤ a2 → wp_X11_home_35 E o a1 a2 post u21 1))))))
set_option maxHeartbeats 4000000 in
set_option maxRecDepth 100000 in
theorem c_X11_home (l : Launch) (G : va_G) (cy : Nat → ClassId) (L : Nat → Nat) (E : ms_En) (hE : ms_WT E) (u : ms_St) (o : Nat) (a1 : Int32) (a2 : Int32) (ho : ms_is E o 11) (post : Int32 → ms_St → Prop) (h : wp_X11_home E u o a1 a2 post) : ms_MetI l ⟨"CensusWalkModel", "home", "(II)Z"⟩ (Cond.code ⟨"CensusWalkModel", "home", "(II)Z"⟩ prog_13_method_41_code 3 (some .boolean) :: lw_g) ({ frames := 1, cells := 0, slots := 0, locals := 20 } : Room) G cy L E [.ref (L o), .int a1, .int a2] u post 0 0 := by
  refine ms_enterI (lv := [(0, .ref (L o)), (1, .int a1), (2, .int a2)]) (by decide) (Nat.le_of_ble_eq_true rfl) rfl ?_
  intro p e s m args below meth c A C hr hlocks
  unfold wp_X11_home at h
  refine a_iload_n C dX11_home_0 rfl 2 rfl rfl ?_
  refine a_aload_n C dX11_home_1 rfl 0 rfl rfl ?_
  refine g_11_8 C hE dX11_home_2 ho kw_5_230 rfl ?_
  have k2 : ms_is E (ms_at E o 8) 13 := ms_wt hE ho rfl (by decide)
  have n2 : ms_N E (ms_at E o 8) = 1613 := ms_wl hE ho (by decide) (by decide) rfl
  refine a_iload_n C dX11_home_5 rfl 1 rfl rfl ?_
  refine a_callSI C (c_X11_house l G cy L E hE u a1  _ h) kw_6_160 kw_6_161 kw_1_12 kw_6_162 rfl rfl pd_X11_house ⟨(Nat.le_of_ble_eq_true rfl), (Nat.le_of_ble_eq_true rfl)⟩ dX11_home_6 rfl (Nat.le_of_ble_eq_true rfl) ⟨(Nat.le_of_ble_eq_true rfl), (Nat.le_of_ble_eq_true rfl)⟩ rfl (fun r6 u6 h => ?_)
  refine a_iconst (v := 4) C dX11_home_9 (by decide) rfl ?_
  refine a_iadd C dX11_home_10 rfl ?_
  obtain ⟨q11, h⟩ := h
  refine a_iald C dX11_home_11 k2 n2 q11 rfl ?_
  refine a_icmp_lt (tgt := 34) C dX11_home_12 (by decide) rfl (fun hc => ?_) (fun hc => ?_)
  · replace h := h.1 hc
    refine a_sub (lv' := []) [] rfl ?_
    exact c_X11_home_34 C hr hlocks hE ho  u6  h
  · replace h := h.2 hc
    refine a_iload_n C dX11_home_15 rfl 2 rfl rfl ?_
    refine a_aload_n C dX11_home_16 rfl 0 rfl rfl ?_
    refine g_11_8 C hE dX11_home_17 ho kw_5_230 rfl ?_
    refine a_iload_n C dX11_home_20 rfl 1 rfl rfl ?_
    refine a_callSI C (c_X11_house l G cy L E hE u6 a1  _ h) kw_6_160 kw_6_161 kw_1_12 kw_6_162 rfl rfl pd_X11_house ⟨(Nat.le_of_ble_eq_true rfl), (Nat.le_of_ble_eq_true rfl)⟩ dX11_home_21 rfl (Nat.le_of_ble_eq_true rfl) ⟨(Nat.le_of_ble_eq_true rfl), (Nat.le_of_ble_eq_true rfl)⟩ rfl (fun r21 u21 h => ?_)
    refine a_iconst (v := 5) C dX11_home_24 (by decide) rfl ?_
    refine a_iadd C dX11_home_25 rfl ?_
    obtain ⟨q26, h⟩ := h
    refine a_iald C dX11_home_26 k2 n2 q26 rfl ?_
    refine a_icmp_ge (tgt := 34) C dX11_home_27 (by decide) rfl (fun hc => ?_) (fun hc => ?_)
    · replace h := h.1 hc
      refine a_sub (lv' := []) [] rfl ?_
      exact c_X11_home_34 C hr hlocks hE ho  u21  h
    · replace h := h.2 hc
      refine a_iconst (v := 1) C dX11_home_30 (by decide) rfl ?_
      refine a_goto (tgt := 35) C dX11_home_31 (by decide) ?_
      refine a_sub (lv' := []) [] rfl ?_
      exact c_X11_home_35 C hr hlocks hE ho  u21 1  h

/-! CensusWalkModel.wayOf(II)I -/
theorem pd_X11_wayOf : (⟨"CensusWalkModel", "wayOf", "(II)I"⟩ : MethodName).cls = "CensusWalkModel" ∧ (⟨"CensusWalkModel", "wayOf", "(II)I"⟩ : MethodName).cls ≠ "java/lang/invoke/MethodHandle" ∧ (⟨"CensusWalkModel", "wayOf", "(II)I"⟩ : MethodName).cls ≠ "java/lang/invoke/VarHandle" ∧ (parseMethodDescriptor (⟨"CensusWalkModel", "wayOf", "(II)I"⟩ : MethodName).desc).map (fun d => d.parameters.length) = some 2 := by decide +kernel
def wp_X11_wayOf_37 (E : ms_En) (o : Nat) (a1 : Int32) (a2 : Int32) (post : Int32 → ms_St → Prop)  (u : ms_St) (z0 : Int32) : Prop := post z0 u
set_option maxHeartbeats 4000000 in
set_option maxRecDepth 100000 in
theorem c_X11_wayOf_37 {p : Program} {l : Launch} {e : Env} {s : State} {m : MethodId} {args : Array Value} {below : List Frame} {meth : Method} {c : Code} {G : va_G} {cy : Nat → ClassId} {A : Nat → Prop} {L : Nat → Nat} {E : ms_En} (C : ms_Cx p m c cX11_wayOf 3 s args (Cond.code ⟨"CensusWalkModel", "wayOf", "(II)I"⟩ prog_13_method_42_code 3 (some .int)) "CensusWalkModel" G cy A) (hr : meth.sig.returnType = (some .int)) (hlocks : meth.locks = false) (hE : ms_WT E) {o : Nat} {a1 : Int32} {a2 : Int32} {post : Int32 → ms_St → Prop}  (ho : ms_is E o 11)  (u : ms_St) (z0 : Int32)  (h : wp_X11_wayOf_37 E o a1 a2 post u z0) : ms_At p l e ({ frames := 5, cells := 0, slots := 0, locals := 108 } : Room) s m args below meth c 3 G cy A L 0 0 (ms_QI below args s G cy L E A post 0 0) E u 37 [] [.int z0] := by
  unfold wp_X11_wayOf_37 at h
  exact a_iret C dX11_wayOf_37 hr hlocks (Nat.le_of_ble_eq_true rfl) (Nat.le_of_ble_eq_true rfl) h
def wp_X11_wayOf (E : ms_En) (u : ms_St) (o : Nat) (a1 : Int32) (a2 : Int32) (post : Int32 → ms_St → Prop) : Prop := vp_in a1 3 ∧ ((0 ≤ (ms_I u (ms_at E o 18) (Int32.toNatClampNeg a1)) → vp_in a1 3 ∧ (wp_X11_between E u o (ms_I u (ms_at E o 18) (Int32.toNatClampNeg a1)) a2 (fun r34 u34 => wp_X11_wayOf_37 E o a1 a2 post u34 r34))) ∧ (¬ 0 ≤ (ms_I u (ms_at E o 18) (Int32.toNatClampNeg a1)) → wp_X11_walker E u a1 (fun r15 u15 => vp_in r15 1613 ∧ (wp_X11_fromCrossing E u15 o (ms_I u15 (ms_at E o 8) (Int32.toNatClampNeg r15)) a2 (fun r20 u20 => wp_X11_wayOf_37 E o a1 a2 post u20 r20)))))
set_option maxHeartbeats 4000000 in
set_option maxRecDepth 100000 in
theorem c_X11_wayOf (l : Launch) (G : va_G) (cy : Nat → ClassId) (L : Nat → Nat) (E : ms_En) (hE : ms_WT E) (u : ms_St) (o : Nat) (a1 : Int32) (a2 : Int32) (ho : ms_is E o 11) (post : Int32 → ms_St → Prop) (h : wp_X11_wayOf E u o a1 a2 post) : ms_MetI l ⟨"CensusWalkModel", "wayOf", "(II)I"⟩ (Cond.code ⟨"CensusWalkModel", "wayOf", "(II)I"⟩ prog_13_method_42_code 3 (some .int) :: lw_g) ({ frames := 5, cells := 0, slots := 0, locals := 108 } : Room) G cy L E [.ref (L o), .int a1, .int a2] u post 0 0 := by
  refine ms_enterI (lv := [(0, .ref (L o)), (1, .int a1), (2, .int a2)]) (by decide) (Nat.le_of_ble_eq_true rfl) rfl ?_
  intro p e s m args below meth c A C hr hlocks
  unfold wp_X11_wayOf at h
  refine a_aload_n C dX11_wayOf_0 rfl 0 rfl rfl ?_
  refine g_11_18 C hE dX11_wayOf_1 ho kw_6_0 rfl ?_
  have k1 : ms_is E (ms_at E o 18) 13 := ms_wt hE ho rfl (by decide)
  have n1 : ms_N E (ms_at E o 18) = 3 := ms_wl hE ho (by decide) (by decide) rfl
  refine a_iload_n C dX11_wayOf_4 rfl 1 rfl rfl ?_
  obtain ⟨q5, h⟩ := h
  refine a_iald C dX11_wayOf_5 k1 n1 q5 rfl ?_
  refine a_if_ge (tgt := 26) C dX11_wayOf_6 (by decide) rfl (fun hc => ?_) (fun hc => ?_)
  · replace h := h.1 hc
    refine a_aload_n C dX11_wayOf_26 rfl 0 rfl rfl ?_
    refine a_aload_n C dX11_wayOf_27 rfl 0 rfl rfl ?_
    refine g_11_18 C hE dX11_wayOf_28 ho kw_6_0 rfl ?_
    refine a_iload_n C dX11_wayOf_31 rfl 1 rfl rfl ?_
    obtain ⟨q32, h⟩ := h
    refine a_iald C dX11_wayOf_32 k1 n1 q32 rfl ?_
    refine a_iload_n C dX11_wayOf_33 rfl 2 rfl rfl ?_
    refine a_callVI C (c_X11_between l G cy L E hE u o (ms_I u (ms_at E o 18) (Int32.toNatClampNeg a1)) a2 ho _ h) ho rfl (by decide) kw_6_236 kw_6_238 kp_63 kw_1_12 kw_6_239 rfl rfl pd_X11_between ⟨(Nat.le_of_ble_eq_true rfl), (Nat.le_of_ble_eq_true rfl)⟩ dX11_wayOf_34 rfl (Nat.le_of_ble_eq_true rfl) ⟨(Nat.le_of_ble_eq_true rfl), (Nat.le_of_ble_eq_true rfl)⟩ rfl (fun r34 u34 h => ?_)
    refine a_sub (lv' := []) [] rfl ?_
    exact c_X11_wayOf_37 C hr hlocks hE ho  u34 r34  h
  · replace h := h.2 hc
    refine a_aload_n C dX11_wayOf_9 rfl 0 rfl rfl ?_
    refine a_aload_n C dX11_wayOf_10 rfl 0 rfl rfl ?_
    refine g_11_8 C hE dX11_wayOf_11 ho kw_5_230 rfl ?_
    have k11 : ms_is E (ms_at E o 8) 13 := ms_wt hE ho rfl (by decide)
    have n11 : ms_N E (ms_at E o 8) = 1613 := ms_wl hE ho (by decide) (by decide) rfl
    refine a_iload_n C dX11_wayOf_14 rfl 1 rfl rfl ?_
    refine a_callSI C (c_X11_walker l G cy L E hE u a1  _ h) kw_6_169 kw_6_170 kw_1_12 kw_6_171 rfl rfl pd_X11_walker ⟨(Nat.le_of_ble_eq_true rfl), (Nat.le_of_ble_eq_true rfl)⟩ dX11_wayOf_15 rfl (Nat.le_of_ble_eq_true rfl) ⟨(Nat.le_of_ble_eq_true rfl), (Nat.le_of_ble_eq_true rfl)⟩ rfl (fun r15 u15 h => ?_)
    obtain ⟨q18, h⟩ := h
    refine a_iald C dX11_wayOf_18 k11 n11 q18 rfl ?_
    refine a_iload_n C dX11_wayOf_19 rfl 2 rfl rfl ?_
    refine a_callVI C (c_X11_fromCrossing l G cy L E hE u15 o (ms_I u15 (ms_at E o 8) (Int32.toNatClampNeg r15)) a2 ho _ h) ho rfl (by decide) kw_7_12 kw_7_14 kp_67 kw_1_12 kw_7_15 rfl rfl pd_X11_fromCrossing ⟨(Nat.le_of_ble_eq_true rfl), (Nat.le_of_ble_eq_true rfl)⟩ dX11_wayOf_20 rfl (Nat.le_of_ble_eq_true rfl) ⟨(Nat.le_of_ble_eq_true rfl), (Nat.le_of_ble_eq_true rfl)⟩ rfl (fun r20 u20 h => ?_)
    refine a_goto (tgt := 37) C dX11_wayOf_23 (by decide) ?_
    refine a_sub (lv' := []) [] rfl ?_
    exact c_X11_wayOf_37 C hr hlocks hE ho  u20 r20  h

/-! CensusWalkModel.nextHouse(I)I -/
theorem pd_X11_nextHouse : (⟨"CensusWalkModel", "nextHouse", "(I)I"⟩ : MethodName).cls = "CensusWalkModel" ∧ (⟨"CensusWalkModel", "nextHouse", "(I)I"⟩ : MethodName).cls ≠ "java/lang/invoke/MethodHandle" ∧ (⟨"CensusWalkModel", "nextHouse", "(I)I"⟩ : MethodName).cls ≠ "java/lang/invoke/VarHandle" ∧ (parseMethodDescriptor (⟨"CensusWalkModel", "nextHouse", "(I)I"⟩ : MethodName).desc).map (fun d => d.parameters.length) = some 1 := by decide +kernel
def wp_X11_nextHouse (E : ms_En) (u : ms_St) (o : Nat) (a1 : Int32) (post : Int32 → ms_St → Prop) : Prop := wp_X11_walker E u a1 (fun r5 u5 => vp_in a1 3 ∧ (vp_in ((r5 + 3) + (ms_I u5 (ms_at E o 19) (Int32.toNatClampNeg a1))) 1613 ∧ (post (ms_I u5 (ms_at E o 8) (Int32.toNatClampNeg ((r5 + 3) + (ms_I u5 (ms_at E o 19) (Int32.toNatClampNeg a1))))) u5)))
set_option maxHeartbeats 4000000 in
set_option maxRecDepth 100000 in
theorem c_X11_nextHouse (l : Launch) (G : va_G) (cy : Nat → ClassId) (L : Nat → Nat) (E : ms_En) (hE : ms_WT E) (u : ms_St) (o : Nat) (a1 : Int32) (ho : ms_is E o 11) (post : Int32 → ms_St → Prop) (h : wp_X11_nextHouse E u o a1 post) : ms_MetI l ⟨"CensusWalkModel", "nextHouse", "(I)I"⟩ (Cond.code ⟨"CensusWalkModel", "nextHouse", "(I)I"⟩ prog_13_method_43_code 2 (some .int) :: lw_g) ({ frames := 1, cells := 0, slots := 0, locals := 20 } : Room) G cy L E [.ref (L o), .int a1] u post 0 0 := by
  refine ms_enterI (lv := [(0, .ref (L o)), (1, .int a1)]) (by decide) (Nat.le_of_ble_eq_true rfl) rfl ?_
  intro p e s m args below meth c A C hr hlocks
  unfold wp_X11_nextHouse at h
  refine a_aload_n C dX11_nextHouse_0 rfl 0 rfl rfl ?_
  refine g_11_8 C hE dX11_nextHouse_1 ho kw_5_230 rfl ?_
  have k1 : ms_is E (ms_at E o 8) 13 := ms_wt hE ho rfl (by decide)
  have n1 : ms_N E (ms_at E o 8) = 1613 := ms_wl hE ho (by decide) (by decide) rfl
  refine a_iload_n C dX11_nextHouse_4 rfl 1 rfl rfl ?_
  refine a_callSI C (c_X11_walker l G cy L E hE u a1  _ h) kw_6_169 kw_6_170 kw_1_12 kw_6_171 rfl rfl pd_X11_walker ⟨(Nat.le_of_ble_eq_true rfl), (Nat.le_of_ble_eq_true rfl)⟩ dX11_nextHouse_5 rfl (Nat.le_of_ble_eq_true rfl) ⟨(Nat.le_of_ble_eq_true rfl), (Nat.le_of_ble_eq_true rfl)⟩ rfl (fun r5 u5 h => ?_)
  refine a_iconst (v := 3) C dX11_nextHouse_8 (by decide) rfl ?_
  refine a_iadd C dX11_nextHouse_9 rfl ?_
  refine a_aload_n C dX11_nextHouse_10 rfl 0 rfl rfl ?_
  refine g_11_19 C hE dX11_nextHouse_11 ho kw_6_1 rfl ?_
  have k11 : ms_is E (ms_at E o 19) 13 := ms_wt hE ho rfl (by decide)
  have n11 : ms_N E (ms_at E o 19) = 3 := ms_wl hE ho (by decide) (by decide) rfl
  refine a_iload_n C dX11_nextHouse_14 rfl 1 rfl rfl ?_
  obtain ⟨q15, h⟩ := h
  refine a_iald C dX11_nextHouse_15 k11 n11 q15 rfl ?_
  refine a_iadd C dX11_nextHouse_16 rfl ?_
  obtain ⟨q17, h⟩ := h
  refine a_iald C dX11_nextHouse_17 k1 n1 q17 rfl ?_
  exact a_iret C dX11_nextHouse_18 hr hlocks (Nat.le_of_ble_eq_true rfl) (Nat.le_of_ble_eq_true rfl) h

/-! CensusWalkModel.nextArrival(I)I -/
theorem pd_X11_nextArrival : (⟨"CensusWalkModel", "nextArrival", "(I)I"⟩ : MethodName).cls = "CensusWalkModel" ∧ (⟨"CensusWalkModel", "nextArrival", "(I)I"⟩ : MethodName).cls ≠ "java/lang/invoke/MethodHandle" ∧ (⟨"CensusWalkModel", "nextArrival", "(I)I"⟩ : MethodName).cls ≠ "java/lang/invoke/VarHandle" ∧ (parseMethodDescriptor (⟨"CensusWalkModel", "nextArrival", "(I)I"⟩ : MethodName).desc).map (fun d => d.parameters.length) = some 1 := by decide +kernel
def wp_X11_nextArrival_28 (E : ms_En) (o : Nat) (a1 : Int32) (post : Int32 → ms_St → Prop)  (u : ms_St) (z0 : Int32) (z1 : Int32) : Prop := post (z1 + z0) u
set_option maxHeartbeats 4000000 in
set_option maxRecDepth 100000 in
theorem c_X11_nextArrival_28 {p : Program} {l : Launch} {e : Env} {s : State} {m : MethodId} {args : Array Value} {below : List Frame} {meth : Method} {c : Code} {G : va_G} {cy : Nat → ClassId} {A : Nat → Prop} {L : Nat → Nat} {E : ms_En} (C : ms_Cx p m c cX11_nextArrival 3 s args (Cond.code ⟨"CensusWalkModel", "nextArrival", "(I)I"⟩ prog_13_method_44_code 3 (some .int)) "CensusWalkModel" G cy A) (hr : meth.sig.returnType = (some .int)) (hlocks : meth.locks = false) (hE : ms_WT E) {o : Nat} {a1 : Int32} {post : Int32 → ms_St → Prop}  (ho : ms_is E o 11)  (u : ms_St) (z0 : Int32) (z1 : Int32)  (h : wp_X11_nextArrival_28 E o a1 post u z0 z1) : ms_At p l e ({ frames := 6, cells := 0, slots := 0, locals := 130 } : Room) s m args below meth c 3 G cy A L 0 0 (ms_QI below args s G cy L E A post 0 0) E u 28 [] [.int z0, .int z1] := by
  unfold wp_X11_nextArrival_28 at h
  refine a_iadd C dX11_nextArrival_28 rfl ?_
  exact a_iret C dX11_nextArrival_29 hr hlocks (Nat.le_of_ble_eq_true rfl) (Nat.le_of_ble_eq_true rfl) h
def wp_X11_nextArrival (E : ms_En) (u : ms_St) (o : Nat) (a1 : Int32) (post : Int32 → ms_St → Prop) : Prop := wp_X11_nextHouse E u o a1 (fun r4 u4 => wp_X11_wayOf E u4 o a1 r4 (fun r7 u7 => vp_in a1 3 ∧ ((r7 < 1000000 → wp_X11_nextArrival_28 E o a1 post u7 r7 (ms_I u7 (ms_at E o 17) (Int32.toNatClampNeg a1))) ∧ (¬ r7 < 1000000 → wp_X11_nextArrival_28 E o a1 post u7 0 (ms_I u7 (ms_at E o 17) (Int32.toNatClampNeg a1))))))
set_option maxHeartbeats 4000000 in
set_option maxRecDepth 100000 in
theorem c_X11_nextArrival (l : Launch) (G : va_G) (cy : Nat → ClassId) (L : Nat → Nat) (E : ms_En) (hE : ms_WT E) (u : ms_St) (o : Nat) (a1 : Int32) (ho : ms_is E o 11) (post : Int32 → ms_St → Prop) (h : wp_X11_nextArrival E u o a1 post) : ms_MetI l ⟨"CensusWalkModel", "nextArrival", "(I)I"⟩ (Cond.code ⟨"CensusWalkModel", "nextArrival", "(I)I"⟩ prog_13_method_44_code 3 (some .int) :: lw_g) ({ frames := 6, cells := 0, slots := 0, locals := 130 } : Room) G cy L E [.ref (L o), .int a1] u post 0 0 := by
  refine ms_enterI (lv := [(0, .ref (L o)), (1, .int a1)]) (by decide) (Nat.le_of_ble_eq_true rfl) rfl ?_
  intro p e s m args below meth c A C hr hlocks
  unfold wp_X11_nextArrival at h
  refine a_aload_n C dX11_nextArrival_0 rfl 0 rfl rfl ?_
  refine a_iload_n C dX11_nextArrival_1 rfl 1 rfl rfl ?_
  refine a_aload_n C dX11_nextArrival_2 rfl 0 rfl rfl ?_
  refine a_iload_n C dX11_nextArrival_3 rfl 1 rfl rfl ?_
  refine a_callVI C (c_X11_nextHouse l G cy L E hE u o a1 ho _ h) ho rfl (by decide) kw_7_100 kw_7_102 kp_77 kw_1_12 kw_7_103 rfl rfl pd_X11_nextHouse ⟨(Nat.le_of_ble_eq_true rfl), (Nat.le_of_ble_eq_true rfl)⟩ dX11_nextArrival_4 rfl (Nat.le_of_ble_eq_true rfl) ⟨(Nat.le_of_ble_eq_true rfl), (Nat.le_of_ble_eq_true rfl)⟩ rfl (fun r4 u4 h => ?_)
  refine a_callVI C (c_X11_wayOf l G cy L E hE u4 o a1 r4 ho _ h) ho rfl (by decide) kw_7_104 kw_7_106 kp_78 kw_1_12 kw_7_107 rfl rfl pd_X11_wayOf ⟨(Nat.le_of_ble_eq_true rfl), (Nat.le_of_ble_eq_true rfl)⟩ dX11_nextArrival_7 rfl (Nat.le_of_ble_eq_true rfl) ⟨(Nat.le_of_ble_eq_true rfl), (Nat.le_of_ble_eq_true rfl)⟩ rfl (fun r7 u7 h => ?_)
  refine a_istore_n (lv' := [(0, .ref (L o)), (1, .int a1), (2, .int r7)]) C dX11_nextArrival_10 rfl (by decide) [1, 2, 0] rfl rfl ?_
  refine a_aload_n C dX11_nextArrival_11 rfl 0 rfl rfl ?_
  refine g_11_17 C hE dX11_nextArrival_12 ho kw_5_239 rfl ?_
  have k12 : ms_is E (ms_at E o 17) 13 := ms_wt hE ho rfl (by decide)
  have n12 : ms_N E (ms_at E o 17) = 3 := ms_wl hE ho (by decide) (by decide) rfl
  refine a_iload_n C dX11_nextArrival_15 rfl 1 rfl rfl ?_
  obtain ⟨q16, h⟩ := h
  refine a_iald C dX11_nextArrival_16 k12 n12 q16 rfl ?_
  refine a_iload_n C dX11_nextArrival_17 rfl 2 rfl rfl ?_
  refine a_ldc (v := 1000000) C dX11_nextArrival_18 kw_6_135 rfl ?_
  refine a_icmp_lt (tgt := 27) C dX11_nextArrival_20 (by decide) rfl (fun hc => ?_) (fun hc => ?_)
  · replace h := h.1 hc
    refine a_iload_n C dX11_nextArrival_27 rfl 2 rfl rfl ?_
    refine a_sub (lv' := []) [] rfl ?_
    exact c_X11_nextArrival_28 C hr hlocks hE ho  u7 r7 (ms_I u7 (ms_at E o 17) (Int32.toNatClampNeg a1))  h
  · replace h := h.2 hc
    refine a_iconst (v := 0) C dX11_nextArrival_23 (by decide) rfl ?_
    refine a_goto (tgt := 28) C dX11_nextArrival_24 (by decide) ?_
    refine a_sub (lv' := []) [] rfl ?_
    exact c_X11_nextArrival_28 C hr hlocks hE ho  u7 0 (ms_I u7 (ms_at E o 17) (Int32.toNatClampNeg a1))  h

/-! CensusWalkModel.nextWalker()I -/
theorem pd_X11_nextWalker : (⟨"CensusWalkModel", "nextWalker", "()I"⟩ : MethodName).cls = "CensusWalkModel" ∧ (⟨"CensusWalkModel", "nextWalker", "()I"⟩ : MethodName).cls ≠ "java/lang/invoke/MethodHandle" ∧ (⟨"CensusWalkModel", "nextWalker", "()I"⟩ : MethodName).cls ≠ "java/lang/invoke/VarHandle" ∧ (parseMethodDescriptor (⟨"CensusWalkModel", "nextWalker", "()I"⟩ : MethodName).desc).map (fun d => d.parameters.length) = some 0 := by decide +kernel
def wp_X11_nextWalker_54 (E : ms_En) (o : Nat) (post : Int32 → ms_St → Prop) (k11 : ms_St → Int32 → Int32 → Prop) (u : ms_St) (x1 : Int32) (x2 : Int32) : Prop := k11 u x1 (x2 + (-1))
set_option maxHeartbeats 4000000 in
set_option maxRecDepth 100000 in
theorem c_X11_nextWalker_54 {p : Program} {l : Launch} {e : Env} {s : State} {m : MethodId} {args : Array Value} {below : List Frame} {meth : Method} {c : Code} {G : va_G} {cy : Nat → ClassId} {A : Nat → Prop} {L : Nat → Nat} {E : ms_En} (C : ms_Cx p m c cX11_nextWalker 3 s args (Cond.code ⟨"CensusWalkModel", "nextWalker", "()I"⟩ prog_13_method_46_code 3 (some .int)) "CensusWalkModel" G cy A) (hr : meth.sig.returnType = (some .int)) (hlocks : meth.locks = false) (hE : ms_WT E) {o : Nat} {post : Int32 → ms_St → Prop} {k11 : ms_St → Int32 → Int32 → Prop} (ho : ms_is E o 11) (hk11 : ∀ (u : ms_St) (x1 : Int32) (x2 : Int32), k11 u x1 x2 → ms_At p l e ({ frames := 7, cells := 0, slots := 0, locals := 152 } : Room) s m args below meth c 3 G cy A L 0 0 (ms_QI below args s G cy L E A post 0 0) E u 11 [(0, .ref (L o)), (1, .int x1), (2, .int x2)] []) (u : ms_St) (x1 : Int32) (x2 : Int32)  (h : wp_X11_nextWalker_54 E o post k11 u x1 x2) : ms_At p l e ({ frames := 7, cells := 0, slots := 0, locals := 152 } : Room) s m args below meth c 3 G cy A L 0 0 (ms_QI below args s G cy L E A post 0 0) E u 54 [(0, .ref (L o)), (1, .int x1), (2, .int x2)] [] := by
  unfold wp_X11_nextWalker_54 at h
  refine a_iinc (lv' := [(0, .ref (L o)), (1, .int x1), (2, .int (x2 + (-1)))]) (v := (x2 + (-1))) C dX11_nextWalker_54 2 rfl (congrArg (fun z => x2 + z) (by decide)) (by decide) [1, 2, 0] rfl rfl ?_
  refine a_goto (tgt := 11) C dX11_nextWalker_57 (by decide) ?_
  exact hk11 u x1 (x2 + (-1))  h
def wp_X11_nextWalker_52 (E : ms_En) (o : Nat) (post : Int32 → ms_St → Prop) (k11 : ms_St → Int32 → Int32 → Prop) (u : ms_St) (x2 : Int32) : Prop := wp_X11_nextWalker_54 E o post k11 u x2 x2
set_option maxHeartbeats 4000000 in
set_option maxRecDepth 100000 in
theorem c_X11_nextWalker_52 {p : Program} {l : Launch} {e : Env} {s : State} {m : MethodId} {args : Array Value} {below : List Frame} {meth : Method} {c : Code} {G : va_G} {cy : Nat → ClassId} {A : Nat → Prop} {L : Nat → Nat} {E : ms_En} (C : ms_Cx p m c cX11_nextWalker 3 s args (Cond.code ⟨"CensusWalkModel", "nextWalker", "()I"⟩ prog_13_method_46_code 3 (some .int)) "CensusWalkModel" G cy A) (hr : meth.sig.returnType = (some .int)) (hlocks : meth.locks = false) (hE : ms_WT E) {o : Nat} {post : Int32 → ms_St → Prop} {k11 : ms_St → Int32 → Int32 → Prop} (ho : ms_is E o 11) (hk11 : ∀ (u : ms_St) (x1 : Int32) (x2 : Int32), k11 u x1 x2 → ms_At p l e ({ frames := 7, cells := 0, slots := 0, locals := 152 } : Room) s m args below meth c 3 G cy A L 0 0 (ms_QI below args s G cy L E A post 0 0) E u 11 [(0, .ref (L o)), (1, .int x1), (2, .int x2)] []) (u : ms_St) (x2 : Int32)  (h : wp_X11_nextWalker_52 E o post k11 u x2) : ms_At p l e ({ frames := 7, cells := 0, slots := 0, locals := 152 } : Room) s m args below meth c 3 G cy A L 0 0 (ms_QI below args s G cy L E A post 0 0) E u 52 [(0, .ref (L o)), (2, .int x2)] [] := by
  unfold wp_X11_nextWalker_52 at h
  refine a_iload_n C dX11_nextWalker_52 rfl 1 rfl rfl ?_
  refine a_istore_n (lv' := [(0, .ref (L o)), (1, .int x2), (2, .int x2)]) C dX11_nextWalker_53 rfl (by decide) [1, 0, 2] rfl rfl ?_
  exact c_X11_nextWalker_54 C hr hlocks hE ho hk11 u x2 x2  h
def wp_X11_nextWalker_11 (E : ms_En) (o : Nat) (post : Int32 → ms_St → Prop)  : Nat → ms_St → Int32 → Int32 → Prop
  | 0 => fun _ _ _ => False
  | n + 1 => fun u x1 x2 => (x2 < 0 → post x1 u) ∧ (¬ x2 < 0 → vp_in x2 3 ∧ (wp_X11_walker E u x2 (fun r26 u26 => vp_in (r26 + 2) 1613 ∧ (((ms_I u26 (ms_at E o 8) (Int32.toNatClampNeg (r26 + 2))) ≤ (ms_I u (ms_at E o 19) (Int32.toNatClampNeg x2)) → wp_X11_nextWalker_54 E o post (wp_X11_nextWalker_11 E o post n) u26 x1 x2) ∧ (¬ (ms_I u26 (ms_at E o 8) (Int32.toNatClampNeg (r26 + 2))) ≤ (ms_I u (ms_at E o 19) (Int32.toNatClampNeg x2)) → (x1 < 0 → wp_X11_nextWalker_52 E o post (wp_X11_nextWalker_11 E o post n) u26 x2) ∧ (¬ x1 < 0 → wp_X11_nextArrival E u26 o x2 (fun r41 u41 => wp_X11_nextArrival E u41 o x1 (fun r46 u46 => (r46 < r41 → wp_X11_nextWalker_54 E o post (wp_X11_nextWalker_11 E o post n) u46 x1 x2) ∧ (¬ r46 < r41 → wp_X11_nextWalker_52 E o post (wp_X11_nextWalker_11 E o post n) u46 x2)))))))))
set_option maxHeartbeats 4000000 in
set_option maxRecDepth 100000 in
theorem c_X11_nextWalker_11 {p : Program} {l : Launch} {e : Env} {s : State} {m : MethodId} {args : Array Value} {below : List Frame} {meth : Method} {c : Code} {G : va_G} {cy : Nat → ClassId} {A : Nat → Prop} {L : Nat → Nat} {E : ms_En} (C : ms_Cx p m c cX11_nextWalker 3 s args (Cond.code ⟨"CensusWalkModel", "nextWalker", "()I"⟩ prog_13_method_46_code 3 (some .int)) "CensusWalkModel" G cy A) (hr : meth.sig.returnType = (some .int)) (hlocks : meth.locks = false) (hE : ms_WT E) {o : Nat} {post : Int32 → ms_St → Prop}  (ho : ms_is E o 11)  : ∀ (n : Nat) (u : ms_St) (x1 : Int32) (x2 : Int32), wp_X11_nextWalker_11 E o post n u x1 x2 → ms_At p l e ({ frames := 7, cells := 0, slots := 0, locals := 152 } : Room) s m args below meth c 3 G cy A L 0 0 (ms_QI below args s G cy L E A post 0 0) E u 11 [(0, .ref (L o)), (1, .int x1), (2, .int x2)] [] := by
  intro n
  induction n with
  | zero =>
    intro u x1 x2  h
    exact absurd h id
  | succ n ih =>
    intro u x1 x2  h
    unfold wp_X11_nextWalker_11 at h
    refine a_iload_n C dX11_nextWalker_11 rfl 2 rfl rfl ?_
    refine a_if_lt (tgt := 60) C dX11_nextWalker_12 (by decide) rfl (fun hc => ?_) (fun hc => ?_)
    · replace h := h.1 hc
      refine a_iload_n C dX11_nextWalker_60 rfl 1 rfl rfl ?_
      exact a_iret C dX11_nextWalker_61 hr hlocks (Nat.le_of_ble_eq_true rfl) (Nat.le_of_ble_eq_true rfl) h
    · replace h := h.2 hc
      refine a_aload_n C dX11_nextWalker_15 rfl 0 rfl rfl ?_
      refine g_11_19 C hE dX11_nextWalker_16 ho kw_6_1 rfl ?_
      have k16 : ms_is E (ms_at E o 19) 13 := ms_wt hE ho rfl (by decide)
      have n16 : ms_N E (ms_at E o 19) = 3 := ms_wl hE ho (by decide) (by decide) rfl
      refine a_iload_n C dX11_nextWalker_19 rfl 2 rfl rfl ?_
      obtain ⟨q20, h⟩ := h
      refine a_iald C dX11_nextWalker_20 k16 n16 q20 rfl ?_
      refine a_aload_n C dX11_nextWalker_21 rfl 0 rfl rfl ?_
      refine g_11_8 C hE dX11_nextWalker_22 ho kw_5_230 rfl ?_
      have k22 : ms_is E (ms_at E o 8) 13 := ms_wt hE ho rfl (by decide)
      have n22 : ms_N E (ms_at E o 8) = 1613 := ms_wl hE ho (by decide) (by decide) rfl
      refine a_iload_n C dX11_nextWalker_25 rfl 2 rfl rfl ?_
      refine a_callSI C (c_X11_walker l G cy L E hE u x2  _ h) kw_6_169 kw_6_170 kw_1_12 kw_6_171 rfl rfl pd_X11_walker ⟨(Nat.le_of_ble_eq_true rfl), (Nat.le_of_ble_eq_true rfl)⟩ dX11_nextWalker_26 rfl (Nat.le_of_ble_eq_true rfl) ⟨(Nat.le_of_ble_eq_true rfl), (Nat.le_of_ble_eq_true rfl)⟩ rfl (fun r26 u26 h => ?_)
      refine a_iconst (v := 2) C dX11_nextWalker_29 (by decide) rfl ?_
      refine a_iadd C dX11_nextWalker_30 rfl ?_
      obtain ⟨q31, h⟩ := h
      refine a_iald C dX11_nextWalker_31 k22 n22 q31 rfl ?_
      refine a_icmp_ge (tgt := 54) C dX11_nextWalker_32 (by decide) rfl (fun hc => ?_) (fun hc => ?_)
      · replace h := h.1 hc
        exact c_X11_nextWalker_54 C hr hlocks hE ho ih u26 x1 x2  h
      · replace h := h.2 hc
        refine a_iload_n C dX11_nextWalker_35 rfl 1 rfl rfl ?_
        refine a_if_lt (tgt := 52) C dX11_nextWalker_36 (by decide) rfl (fun hc => ?_) (fun hc => ?_)
        · replace h := h.1 hc
          refine a_sub (lv' := [(0, .ref (L o)), (2, .int x2)]) [0, 2] rfl ?_
          exact c_X11_nextWalker_52 C hr hlocks hE ho ih u26 x2  h
        · replace h := h.2 hc
          refine a_aload_n C dX11_nextWalker_39 rfl 0 rfl rfl ?_
          refine a_iload_n C dX11_nextWalker_40 rfl 2 rfl rfl ?_
          refine a_callVI C (c_X11_nextArrival l G cy L E hE u26 o x2 ho _ h) ho rfl (by decide) kw_7_96 kw_7_98 kp_76 kw_1_12 kw_7_99 rfl rfl pd_X11_nextArrival ⟨(Nat.le_of_ble_eq_true rfl), (Nat.le_of_ble_eq_true rfl)⟩ dX11_nextWalker_41 rfl (Nat.le_of_ble_eq_true rfl) ⟨(Nat.le_of_ble_eq_true rfl), (Nat.le_of_ble_eq_true rfl)⟩ rfl (fun r41 u41 h => ?_)
          refine a_aload_n C dX11_nextWalker_44 rfl 0 rfl rfl ?_
          refine a_iload_n C dX11_nextWalker_45 rfl 1 rfl rfl ?_
          refine a_callVI C (c_X11_nextArrival l G cy L E hE u41 o x1 ho _ h) ho rfl (by decide) kw_7_96 kw_7_98 kp_76 kw_1_12 kw_7_99 rfl rfl pd_X11_nextArrival ⟨(Nat.le_of_ble_eq_true rfl), (Nat.le_of_ble_eq_true rfl)⟩ dX11_nextWalker_46 rfl (Nat.le_of_ble_eq_true rfl) ⟨(Nat.le_of_ble_eq_true rfl), (Nat.le_of_ble_eq_true rfl)⟩ rfl (fun r46 u46 h => ?_)
          refine a_icmp_gt (tgt := 54) C dX11_nextWalker_49 (by decide) rfl (fun hc => ?_) (fun hc => ?_)
          · replace h := h.1 hc
            exact c_X11_nextWalker_54 C hr hlocks hE ho ih u46 x1 x2  h
          · replace h := h.2 hc
            refine a_sub (lv' := [(0, .ref (L o)), (2, .int x2)]) [0, 2] rfl ?_
            exact c_X11_nextWalker_52 C hr hlocks hE ho ih u46 x2  h
def wp_X11_nextWalker (E : ms_En) (u : ms_St) (o : Nat) (post : Int32 → ms_St → Prop) : Prop := vp_in 3 1613 ∧ (∀ v10 : Int32, v10 = ((ms_I u (ms_at E o 8) (Int32.toNatClampNeg 3)) - 1) → (∃ n11, wp_X11_nextWalker_11 E o post n11 u (-1) v10))
set_option maxHeartbeats 4000000 in
set_option maxRecDepth 100000 in
theorem c_X11_nextWalker (l : Launch) (G : va_G) (cy : Nat → ClassId) (L : Nat → Nat) (E : ms_En) (hE : ms_WT E) (u : ms_St) (o : Nat) (ho : ms_is E o 11) (post : Int32 → ms_St → Prop) (h : wp_X11_nextWalker E u o post) : ms_MetI l ⟨"CensusWalkModel", "nextWalker", "()I"⟩ (Cond.code ⟨"CensusWalkModel", "nextWalker", "()I"⟩ prog_13_method_46_code 3 (some .int) :: lw_g) ({ frames := 7, cells := 0, slots := 0, locals := 152 } : Room) G cy L E [.ref (L o)] u post 0 0 := by
  refine ms_enterI (lv := [(0, .ref (L o))]) (by decide) (Nat.le_of_ble_eq_true rfl) rfl ?_
  intro p e s m args below meth c A C hr hlocks
  unfold wp_X11_nextWalker at h
  refine a_iconst (v := (-1)) C dX11_nextWalker_0 (by decide) rfl ?_
  refine a_istore_n (lv' := [(0, .ref (L o)), (1, .int (-1))]) C dX11_nextWalker_1 rfl (by decide) [1, 0] rfl rfl ?_
  refine a_aload_n C dX11_nextWalker_2 rfl 0 rfl rfl ?_
  refine g_11_8 C hE dX11_nextWalker_3 ho kw_5_230 rfl ?_
  have k3 : ms_is E (ms_at E o 8) 13 := ms_wt hE ho rfl (by decide)
  have n3 : ms_N E (ms_at E o 8) = 1613 := ms_wl hE ho (by decide) (by decide) rfl
  refine a_iconst (v := 3) C dX11_nextWalker_6 (by decide) rfl ?_
  obtain ⟨q7, h⟩ := h
  refine a_iald C dX11_nextWalker_7 k3 n3 q7 rfl ?_
  refine a_iconst (v := 1) C dX11_nextWalker_8 (by decide) rfl ?_
  refine a_isub C dX11_nextWalker_9 rfl ?_
  refine a_nmI (fun v10 e10 => ?_)
  replace h := h v10 e10
  refine a_istore_n (lv' := [(0, .ref (L o)), (1, .int (-1)), (2, .int v10)]) C dX11_nextWalker_10 rfl (by decide) [1, 2, 0] rfl rfl ?_
  obtain ⟨n9, h⟩ := h
  exact c_X11_nextWalker_11 C hr hlocks hE ho  n9 u (-1) v10  h

/-! CensusWalkModel.go(I)V -/
theorem pd_X11_go : (⟨"CensusWalkModel", "go", "(I)V"⟩ : MethodName).cls = "CensusWalkModel" ∧ (⟨"CensusWalkModel", "go", "(I)V"⟩ : MethodName).cls ≠ "java/lang/invoke/MethodHandle" ∧ (⟨"CensusWalkModel", "go", "(I)V"⟩ : MethodName).cls ≠ "java/lang/invoke/VarHandle" ∧ (parseMethodDescriptor (⟨"CensusWalkModel", "go", "(I)V"⟩ : MethodName).desc).map (fun d => d.parameters.length) = some 1 := by decide +kernel
def wp_X11_go_161 (E : ms_En) (o : Nat) (a1 : Int32) (post : ms_St → Prop)  (u : ms_St)  : Prop := post u
set_option maxHeartbeats 4000000 in
set_option maxRecDepth 100000 in
theorem c_X11_go_161 {p : Program} {l : Launch} {e : Env} {s : State} {m : MethodId} {args : Array Value} {below : List Frame} {meth : Method} {c : Code} {G : va_G} {cy : Nat → ClassId} {A : Nat → Prop} {L : Nat → Nat} {E : ms_En} (C : ms_Cx p m c cX11_go 7 s args (Cond.code ⟨"CensusWalkModel", "go", "(I)V"⟩ prog_13_method_47_code 7 none) "CensusWalkModel" G cy A) (hr : meth.sig.returnType = none) (hlocks : meth.locks = false) (hE : ms_WT E) {o : Nat} {a1 : Int32} {post : ms_St → Prop}  (ho : ms_is E o 11)  (u : ms_St)   (h : wp_X11_go_161 E o a1 post u ) : ms_At p l e ({ frames := 7, cells := 0, slots := 0, locals := 152 } : Room) s m args below meth c 7 G cy A L 0 0 (ms_QV below args s G cy L E A post 0 0) E u 161 [] [] := by
  unfold wp_X11_go_161 at h
  exact a_vret C dX11_go_161 hr hlocks (Nat.le_of_ble_eq_true rfl) (Nat.le_of_ble_eq_true rfl) h
def wp_X11_go_249 (E : ms_En) (o : Nat) (a1 : Int32) (post : ms_St → Prop)  (u : ms_St)  : Prop := post u
set_option maxHeartbeats 4000000 in
set_option maxRecDepth 100000 in
theorem c_X11_go_249 {p : Program} {l : Launch} {e : Env} {s : State} {m : MethodId} {args : Array Value} {below : List Frame} {meth : Method} {c : Code} {G : va_G} {cy : Nat → ClassId} {A : Nat → Prop} {L : Nat → Nat} {E : ms_En} (C : ms_Cx p m c cX11_go 7 s args (Cond.code ⟨"CensusWalkModel", "go", "(I)V"⟩ prog_13_method_47_code 7 none) "CensusWalkModel" G cy A) (hr : meth.sig.returnType = none) (hlocks : meth.locks = false) (hE : ms_WT E) {o : Nat} {a1 : Int32} {post : ms_St → Prop}  (ho : ms_is E o 11)  (u : ms_St)   (h : wp_X11_go_249 E o a1 post u ) : ms_At p l e ({ frames := 7, cells := 0, slots := 0, locals := 152 } : Room) s m args below meth c 7 G cy A L 0 0 (ms_QV below args s G cy L E A post 0 0) E u 249 [] [] := by
  unfold wp_X11_go_249 at h
  exact a_vret C dX11_go_249 hr hlocks (Nat.le_of_ble_eq_true rfl) (Nat.le_of_ble_eq_true rfl) h
def wp_X11_go_230 (E : ms_En) (o : Nat) (a1 : Int32) (post : ms_St → Prop)  (u : ms_St) (x2 : Int32) (x6 : Int32) (z0 : Int32) (z1 : Int32) (z2 : Int32) (z3 : Nat) : Prop := vp_in z2 3 ∧ ((x6 = 0 → wp_X11_go_249 E o a1 post (ms_sI u z3 (Int32.toNatClampNeg z2) (z1 + z0))) ∧ (¬ x6 = 0 → ∀ w246 : ms_St, w246 = (ms_sI (ms_sI u z3 (Int32.toNatClampNeg z2) (z1 + z0)) o 24 ((ms_I (ms_sI u z3 (Int32.toNatClampNeg z2) (z1 + z0)) o 24) ||| (1 <<< (x2 &&& 31)))) → (wp_X11_go_249 E o a1 post w246)))
set_option maxHeartbeats 4000000 in
set_option maxRecDepth 100000 in
theorem c_X11_go_230 {p : Program} {l : Launch} {e : Env} {s : State} {m : MethodId} {args : Array Value} {below : List Frame} {meth : Method} {c : Code} {G : va_G} {cy : Nat → ClassId} {A : Nat → Prop} {L : Nat → Nat} {E : ms_En} (C : ms_Cx p m c cX11_go 7 s args (Cond.code ⟨"CensusWalkModel", "go", "(I)V"⟩ prog_13_method_47_code 7 none) "CensusWalkModel" G cy A) (hr : meth.sig.returnType = none) (hlocks : meth.locks = false) (hE : ms_WT E) {o : Nat} {a1 : Int32} {post : ms_St → Prop}  (ho : ms_is E o 11)  (u : ms_St) (x2 : Int32) (x6 : Int32) (z0 : Int32) (z1 : Int32) (z2 : Int32) (z3 : Nat) (k_z3 : ms_is E z3 13) (n_z3 : ms_N E z3 = 3) (h : wp_X11_go_230 E o a1 post u x2 x6 z0 z1 z2 z3) : ms_At p l e ({ frames := 7, cells := 0, slots := 0, locals := 152 } : Room) s m args below meth c 7 G cy A L 0 0 (ms_QV below args s G cy L E A post 0 0) E u 230 [(0, .ref (L o)), (2, .int x2), (6, .int x6)] [.int z0, .int z1, .int z2, .ref (L z3)] := by
  unfold wp_X11_go_230 at h
  refine a_iadd C dX11_go_230 rfl ?_
  obtain ⟨q231, h⟩ := h
  refine a_iast C dX11_go_231 k_z3 n_z3 q231 rfl ?_
  refine a_iload C dX11_go_232 2 rfl rfl ?_
  refine a_if_eq (tgt := 249) C dX11_go_234 (by decide) rfl (fun hc => ?_) (fun hc => ?_)
  · replace h := h.1 hc
    refine a_sub (lv' := []) [] rfl ?_
    exact c_X11_go_249 C hr hlocks hE ho  (ms_sI u z3 (Int32.toNatClampNeg z2) (z1 + z0))  h
  · replace h := h.2 hc
    refine a_aload_n C dX11_go_237 rfl 0 rfl rfl ?_
    refine a_dup C dX11_go_238 rfl rfl ?_
    refine g_11_24 C dX11_go_239 ho kw_6_6 rfl ?_
    refine a_iconst (v := 1) C dX11_go_242 (by decide) rfl ?_
    refine a_iload_n C dX11_go_243 rfl 1 rfl rfl ?_
    refine a_ishl C dX11_go_244 rfl ?_
    refine a_ior C dX11_go_245 rfl ?_
    refine s_11_24 C dX11_go_246 ho kw_6_6 rfl ?_
    refine a_nmU (fun w246 e246 => ?_)
    replace h := h w246 e246
    refine a_sub (lv' := []) [] rfl ?_
    exact c_X11_go_249 C hr hlocks hE ho  w246  h
def wp_X11_go_203 (E : ms_En) (o : Nat) (a1 : Int32) (post : ms_St → Prop)  (u : ms_St) (x2 : Int32) (x3 : Int32) (x6 : Int32) (z0 : Int32) (z1 : Int32) (z2 : Nat) : Prop := vp_in z1 36 ∧ ((x6 = 0 → wp_X11_go_230 E o a1 post (ms_sI u z2 (Int32.toNatClampNeg z1) z0) x2 x6 1 x3 a1 (ms_at E o 17)) ∧ (¬ x6 = 0 → vp_in x2 16 ∧ (wp_X11_visit E (ms_sI u z2 (Int32.toNatClampNeg z1) z0) o x2 (ms_I (ms_sI u z2 (Int32.toNatClampNeg z1) z0) (ms_at E o 22) (Int32.toNatClampNeg x2)) (fun r223 u223 => wp_X11_go_230 E o a1 post u223 x2 x6 r223 x3 a1 (ms_at E o 17)))))
set_option maxHeartbeats 4000000 in
set_option maxRecDepth 100000 in
theorem c_X11_go_203 {p : Program} {l : Launch} {e : Env} {s : State} {m : MethodId} {args : Array Value} {below : List Frame} {meth : Method} {c : Code} {G : va_G} {cy : Nat → ClassId} {A : Nat → Prop} {L : Nat → Nat} {E : ms_En} (C : ms_Cx p m c cX11_go 7 s args (Cond.code ⟨"CensusWalkModel", "go", "(I)V"⟩ prog_13_method_47_code 7 none) "CensusWalkModel" G cy A) (hr : meth.sig.returnType = none) (hlocks : meth.locks = false) (hE : ms_WT E) {o : Nat} {a1 : Int32} {post : ms_St → Prop}  (ho : ms_is E o 11)  (u : ms_St) (x2 : Int32) (x3 : Int32) (x6 : Int32) (z0 : Int32) (z1 : Int32) (z2 : Nat) (k_z2 : ms_is E z2 13) (n_z2 : ms_N E z2 = 36) (h : wp_X11_go_203 E o a1 post u x2 x3 x6 z0 z1 z2) : ms_At p l e ({ frames := 7, cells := 0, slots := 0, locals := 152 } : Room) s m args below meth c 7 G cy A L 0 0 (ms_QV below args s G cy L E A post 0 0) E u 203 [(0, .ref (L o)), (1, .int a1), (2, .int x2), (3, .int x3), (6, .int x6)] [.int z0, .int z1, .ref (L z2)] := by
  unfold wp_X11_go_203 at h
  obtain ⟨q203, h⟩ := h
  refine a_iast C dX11_go_203 k_z2 n_z2 q203 rfl ?_
  refine a_aload_n C dX11_go_204 rfl 0 rfl rfl ?_
  refine g_11_17 C hE dX11_go_205 ho kw_5_239 rfl ?_
  have k205 : ms_is E (ms_at E o 17) 13 := ms_wt hE ho rfl (by decide)
  have n205 : ms_N E (ms_at E o 17) = 3 := ms_wl hE ho (by decide) (by decide) rfl
  refine a_iload_n C dX11_go_208 rfl 1 rfl rfl ?_
  refine a_iload_n C dX11_go_209 rfl 3 rfl rfl ?_
  refine a_iload C dX11_go_210 4 rfl rfl ?_
  refine a_if_eq (tgt := 229) C dX11_go_212 (by decide) rfl (fun hc => ?_) (fun hc => ?_)
  · replace h := h.1 hc
    refine a_iconst (v := 1) C dX11_go_229 (by decide) rfl ?_
    refine a_sub (lv' := [(0, .ref (L o)), (2, .int x2), (6, .int x6)]) [0, 2, 4] rfl ?_
    exact c_X11_go_230 C hr hlocks hE ho  (ms_sI u z2 (Int32.toNatClampNeg z1) z0) x2 x6 1 x3 a1 (ms_at E o 17) k205 n205 h
  · replace h := h.2 hc
    refine a_aload_n C dX11_go_215 rfl 0 rfl rfl ?_
    refine a_iload_n C dX11_go_216 rfl 2 rfl rfl ?_
    refine a_aload_n C dX11_go_217 rfl 0 rfl rfl ?_
    refine g_11_22 C hE dX11_go_218 ho kw_6_4 rfl ?_
    have k218 : ms_is E (ms_at E o 22) 13 := ms_wt hE ho rfl (by decide)
    have n218 : ms_N E (ms_at E o 22) = 16 := ms_wl hE ho (by decide) (by decide) rfl
    refine a_iload_n C dX11_go_221 rfl 2 rfl rfl ?_
    obtain ⟨q222, h⟩ := h
    refine a_iald C dX11_go_222 k218 n218 q222 rfl ?_
    refine a_callVI C (c_X11_visit l G cy L E hE (ms_sI u z2 (Int32.toNatClampNeg z1) z0) o x2 (ms_I (ms_sI u z2 (Int32.toNatClampNeg z1) z0) (ms_at E o 22) (Int32.toNatClampNeg x2)) ho _ h) ho rfl (by decide) kw_7_55 kw_7_57 kp_71 kw_1_12 kw_7_58 rfl rfl pd_X11_visit ⟨(Nat.le_of_ble_eq_true rfl), (Nat.le_of_ble_eq_true rfl)⟩ dX11_go_223 rfl (Nat.le_of_ble_eq_true rfl) ⟨(Nat.le_of_ble_eq_true rfl), (Nat.le_of_ble_eq_true rfl)⟩ rfl (fun r223 u223 h => ?_)
    refine a_goto (tgt := 230) C dX11_go_226 (by decide) ?_
    refine a_sub (lv' := [(0, .ref (L o)), (2, .int x2), (6, .int x6)]) [0, 2, 4] rfl ?_
    exact c_X11_go_230 C hr hlocks hE ho  u223 x2 x6 r223 x3 a1 (ms_at E o 17) k205 n205 h
def wp_X11_go_162 (E : ms_En) (o : Nat) (a1 : Int32) (post : ms_St → Prop)  (u : ms_St) (x2 : Int32) (x3 : Int32) (x4 : Int32) : Prop := vp_in x2 16 ∧ (vp_in x2 16 ∧ (∀ w171 : ms_St, w171 = (ms_sI u (ms_at E o 22) (Int32.toNatClampNeg x2) ((ms_I u (ms_at E o 22) (Int32.toNatClampNeg x2)) + 1)) → (vp_in x2 16 ∧ (wp_X11_home E (ms_sI w171 (ms_at E o 23) (Int32.toNatClampNeg x2) x3) o x2 x3 (fun r182 u182 => (r182 = 0 → wp_X11_go_203 E o a1 post u182 x2 x3 r182 1 x4 (ms_at E o 20)) ∧ (¬ r182 = 0 → wp_X11_go_203 E o a1 post u182 x2 x3 r182 0 x4 (ms_at E o 20)))))))
set_option maxHeartbeats 4000000 in
set_option maxRecDepth 100000 in
theorem c_X11_go_162 {p : Program} {l : Launch} {e : Env} {s : State} {m : MethodId} {args : Array Value} {below : List Frame} {meth : Method} {c : Code} {G : va_G} {cy : Nat → ClassId} {A : Nat → Prop} {L : Nat → Nat} {E : ms_En} (C : ms_Cx p m c cX11_go 7 s args (Cond.code ⟨"CensusWalkModel", "go", "(I)V"⟩ prog_13_method_47_code 7 none) "CensusWalkModel" G cy A) (hr : meth.sig.returnType = none) (hlocks : meth.locks = false) (hE : ms_WT E) {o : Nat} {a1 : Int32} {post : ms_St → Prop}  (ho : ms_is E o 11)  (u : ms_St) (x2 : Int32) (x3 : Int32) (x4 : Int32)  (h : wp_X11_go_162 E o a1 post u x2 x3 x4) : ms_At p l e ({ frames := 7, cells := 0, slots := 0, locals := 152 } : Room) s m args below meth c 7 G cy A L 0 0 (ms_QV below args s G cy L E A post 0 0) E u 162 [(0, .ref (L o)), (1, .int a1), (2, .int x2), (3, .int x3), (4, .int x4)] [] := by
  unfold wp_X11_go_162 at h
  refine a_aload_n C dX11_go_162 rfl 0 rfl rfl ?_
  refine g_11_22 C hE dX11_go_163 ho kw_6_4 rfl ?_
  have k163 : ms_is E (ms_at E o 22) 13 := ms_wt hE ho rfl (by decide)
  have n163 : ms_N E (ms_at E o 22) = 16 := ms_wl hE ho (by decide) (by decide) rfl
  refine a_iload_n C dX11_go_166 rfl 2 rfl rfl ?_
  refine a_dup2 C dX11_go_167 rfl rfl rfl ?_
  obtain ⟨q168, h⟩ := h
  refine a_iald C dX11_go_168 k163 n163 q168 rfl ?_
  refine a_iconst (v := 1) C dX11_go_169 (by decide) rfl ?_
  refine a_iadd C dX11_go_170 rfl ?_
  obtain ⟨q171, h⟩ := h
  refine a_iast C dX11_go_171 k163 n163 q171 rfl ?_
  refine a_nmU (fun w171 e171 => ?_)
  replace h := h w171 e171
  refine a_aload_n C dX11_go_172 rfl 0 rfl rfl ?_
  refine g_11_23 C hE dX11_go_173 ho kw_6_5 rfl ?_
  have k173 : ms_is E (ms_at E o 23) 13 := ms_wt hE ho rfl (by decide)
  have n173 : ms_N E (ms_at E o 23) = 16 := ms_wl hE ho (by decide) (by decide) rfl
  refine a_iload_n C dX11_go_176 rfl 2 rfl rfl ?_
  refine a_iload_n C dX11_go_177 rfl 3 rfl rfl ?_
  obtain ⟨q178, h⟩ := h
  refine a_iast C dX11_go_178 k173 n173 q178 rfl ?_
  refine a_aload_n C dX11_go_179 rfl 0 rfl rfl ?_
  refine a_iload_n C dX11_go_180 rfl 2 rfl rfl ?_
  refine a_iload_n C dX11_go_181 rfl 3 rfl rfl ?_
  refine a_callVI C (c_X11_home l G cy L E hE (ms_sI w171 (ms_at E o 23) (Int32.toNatClampNeg x2) x3) o x2 x3 ho _ h) ho rfl (by decide) kw_7_47 kw_7_49 kp_70 kw_1_12 kw_7_50 rfl rfl pd_X11_home ⟨(Nat.le_of_ble_eq_true rfl), (Nat.le_of_ble_eq_true rfl)⟩ dX11_go_182 rfl (Nat.le_of_ble_eq_true rfl) ⟨(Nat.le_of_ble_eq_true rfl), (Nat.le_of_ble_eq_true rfl)⟩ rfl (fun r182 u182 h => ?_)
  refine a_istore (lv' := [(0, .ref (L o)), (1, .int a1), (2, .int x2), (3, .int x3), (4, .int x4), (6, .int r182)]) C dX11_go_185 (by decide) [1, 2, 3, 4, 5, 0] rfl rfl ?_
  refine a_aload_n C dX11_go_187 rfl 0 rfl rfl ?_
  refine g_11_20 C hE dX11_go_188 ho kw_6_2 rfl ?_
  have k188 : ms_is E (ms_at E o 20) 13 := ms_wt hE ho rfl (by decide)
  have n188 : ms_N E (ms_at E o 20) = 36 := ms_wl hE ho (by decide) (by decide) rfl
  refine a_iload C dX11_go_191 4 rfl rfl ?_
  refine a_iload C dX11_go_193 5 rfl rfl ?_
  refine a_if_eq (tgt := 202) C dX11_go_195 (by decide) rfl (fun hc => ?_) (fun hc => ?_)
  · replace h := h.1 hc
    refine a_iconst (v := 1) C dX11_go_202 (by decide) rfl ?_
    refine a_sub (lv' := [(0, .ref (L o)), (1, .int a1), (2, .int x2), (3, .int x3), (6, .int r182)]) [0, 1, 2, 3, 5] rfl ?_
    exact c_X11_go_203 C hr hlocks hE ho  u182 x2 x3 r182 1 x4 (ms_at E o 20) k188 n188 h
  · replace h := h.2 hc
    refine a_iconst (v := 0) C dX11_go_198 (by decide) rfl ?_
    refine a_goto (tgt := 203) C dX11_go_199 (by decide) ?_
    refine a_sub (lv' := [(0, .ref (L o)), (1, .int a1), (2, .int x2), (3, .int x3), (6, .int r182)]) [0, 1, 2, 3, 5] rfl ?_
    exact c_X11_go_203 C hr hlocks hE ho  u182 x2 x3 r182 0 x4 (ms_at E o 20) k188 n188 h
def wp_X11_go_112 (E : ms_En) (o : Nat) (a1 : Int32) (post : ms_St → Prop)  (u : ms_St) (x2 : Int32) (x3 : Int32) (x4 : Int32) (z0 : Int32) (z1 : Int32) (z2 : Nat) : Prop := vp_in z1 36 ∧ (vp_in x4 36 ∧ (((ms_I (ms_sI u z2 (Int32.toNatClampNeg z1) z0) (ms_at E o 20) (Int32.toNatClampNeg x4)) = 2 → wp_X11_go_161 E o a1 post (ms_sI u z2 (Int32.toNatClampNeg z1) z0)) ∧ (¬ (ms_I (ms_sI u z2 (Int32.toNatClampNeg z1) z0) (ms_at E o 20) (Int32.toNatClampNeg x4)) = 2 → vp_in x2 16 ∧ (((ms_I (ms_sI u z2 (Int32.toNatClampNeg z1) z0) (ms_at E o 22) (Int32.toNatClampNeg x2)) = 2 → wp_X11_go_161 E o a1 post (ms_sI u z2 (Int32.toNatClampNeg z1) z0)) ∧ (¬ (ms_I (ms_sI u z2 (Int32.toNatClampNeg z1) z0) (ms_at E o 22) (Int32.toNatClampNeg x2)) = 2 → vp_in x2 16 ∧ (((ms_I (ms_sI u z2 (Int32.toNatClampNeg z1) z0) (ms_at E o 22) (Int32.toNatClampNeg x2)) = 1 → vp_in x2 16 ∧ (vp_in 5 1613 ∧ (((ms_I (ms_sI u z2 (Int32.toNatClampNeg z1) z0) (ms_at E o 23) (Int32.toNatClampNeg x2)) ≤ (x3 - (ms_I (ms_sI u z2 (Int32.toNatClampNeg z1) z0) (ms_at E o 8) (Int32.toNatClampNeg 5))) → wp_X11_go_162 E o a1 post (ms_sI u z2 (Int32.toNatClampNeg z1) z0) x2 x3 x4) ∧ (¬ (ms_I (ms_sI u z2 (Int32.toNatClampNeg z1) z0) (ms_at E o 23) (Int32.toNatClampNeg x2)) ≤ (x3 - (ms_I (ms_sI u z2 (Int32.toNatClampNeg z1) z0) (ms_at E o 8) (Int32.toNatClampNeg 5))) → wp_X11_go_161 E o a1 post (ms_sI u z2 (Int32.toNatClampNeg z1) z0))))) ∧ (¬ (ms_I (ms_sI u z2 (Int32.toNatClampNeg z1) z0) (ms_at E o 22) (Int32.toNatClampNeg x2)) = 1 → wp_X11_go_162 E o a1 post (ms_sI u z2 (Int32.toNatClampNeg z1) z0) x2 x3 x4)))))))
set_option maxHeartbeats 4000000 in
set_option maxRecDepth 100000 in
theorem c_X11_go_112 {p : Program} {l : Launch} {e : Env} {s : State} {m : MethodId} {args : Array Value} {below : List Frame} {meth : Method} {c : Code} {G : va_G} {cy : Nat → ClassId} {A : Nat → Prop} {L : Nat → Nat} {E : ms_En} (C : ms_Cx p m c cX11_go 7 s args (Cond.code ⟨"CensusWalkModel", "go", "(I)V"⟩ prog_13_method_47_code 7 none) "CensusWalkModel" G cy A) (hr : meth.sig.returnType = none) (hlocks : meth.locks = false) (hE : ms_WT E) {o : Nat} {a1 : Int32} {post : ms_St → Prop}  (ho : ms_is E o 11)  (u : ms_St) (x2 : Int32) (x3 : Int32) (x4 : Int32) (z0 : Int32) (z1 : Int32) (z2 : Nat) (k_z2 : ms_is E z2 13) (n_z2 : ms_N E z2 = 36) (h : wp_X11_go_112 E o a1 post u x2 x3 x4 z0 z1 z2) : ms_At p l e ({ frames := 7, cells := 0, slots := 0, locals := 152 } : Room) s m args below meth c 7 G cy A L 0 0 (ms_QV below args s G cy L E A post 0 0) E u 112 [(0, .ref (L o)), (1, .int a1), (2, .int x2), (3, .int x3), (4, .int x4)] [.int z0, .int z1, .ref (L z2)] := by
  unfold wp_X11_go_112 at h
  obtain ⟨q112, h⟩ := h
  refine a_iast C dX11_go_112 k_z2 n_z2 q112 rfl ?_
  refine a_aload_n C dX11_go_113 rfl 0 rfl rfl ?_
  refine g_11_20 C hE dX11_go_114 ho kw_6_2 rfl ?_
  have k114 : ms_is E (ms_at E o 20) 13 := ms_wt hE ho rfl (by decide)
  have n114 : ms_N E (ms_at E o 20) = 36 := ms_wl hE ho (by decide) (by decide) rfl
  refine a_iload C dX11_go_117 4 rfl rfl ?_
  obtain ⟨q119, h⟩ := h
  refine a_iald C dX11_go_119 k114 n114 q119 rfl ?_
  refine a_iconst (v := 2) C dX11_go_120 (by decide) rfl ?_
  refine a_icmp_eq (tgt := 161) C dX11_go_121 (by decide) rfl (fun hc => ?_) (fun hc => ?_)
  · replace h := h.1 hc
    refine a_sub (lv' := []) [] rfl ?_
    exact c_X11_go_161 C hr hlocks hE ho  (ms_sI u z2 (Int32.toNatClampNeg z1) z0)  h
  · replace h := h.2 hc
    refine a_aload_n C dX11_go_124 rfl 0 rfl rfl ?_
    refine g_11_22 C hE dX11_go_125 ho kw_6_4 rfl ?_
    have k125 : ms_is E (ms_at E o 22) 13 := ms_wt hE ho rfl (by decide)
    have n125 : ms_N E (ms_at E o 22) = 16 := ms_wl hE ho (by decide) (by decide) rfl
    refine a_iload_n C dX11_go_128 rfl 2 rfl rfl ?_
    obtain ⟨q129, h⟩ := h
    refine a_iald C dX11_go_129 k125 n125 q129 rfl ?_
    refine a_iconst (v := 2) C dX11_go_130 (by decide) rfl ?_
    refine a_icmp_eq (tgt := 161) C dX11_go_131 (by decide) rfl (fun hc => ?_) (fun hc => ?_)
    · replace h := h.1 hc
      refine a_sub (lv' := []) [] rfl ?_
      exact c_X11_go_161 C hr hlocks hE ho  (ms_sI u z2 (Int32.toNatClampNeg z1) z0)  h
    · replace h := h.2 hc
      refine a_aload_n C dX11_go_134 rfl 0 rfl rfl ?_
      refine g_11_22 C hE dX11_go_135 ho kw_6_4 rfl ?_
      refine a_iload_n C dX11_go_138 rfl 2 rfl rfl ?_
      obtain ⟨q139, h⟩ := h
      refine a_iald C dX11_go_139 k125 n125 q139 rfl ?_
      refine a_iconst (v := 1) C dX11_go_140 (by decide) rfl ?_
      refine a_icmp_ne (tgt := 162) C dX11_go_141 (by decide) rfl (fun hc => ?_) (fun hc => ?_)
      · replace h := h.2 hc
        exact c_X11_go_162 C hr hlocks hE ho  (ms_sI u z2 (Int32.toNatClampNeg z1) z0) x2 x3 x4  h
      · replace h := h.1 hc
        refine a_aload_n C dX11_go_144 rfl 0 rfl rfl ?_
        refine g_11_23 C hE dX11_go_145 ho kw_6_5 rfl ?_
        have k145 : ms_is E (ms_at E o 23) 13 := ms_wt hE ho rfl (by decide)
        have n145 : ms_N E (ms_at E o 23) = 16 := ms_wl hE ho (by decide) (by decide) rfl
        refine a_iload_n C dX11_go_148 rfl 2 rfl rfl ?_
        obtain ⟨q149, h⟩ := h
        refine a_iald C dX11_go_149 k145 n145 q149 rfl ?_
        refine a_iload_n C dX11_go_150 rfl 3 rfl rfl ?_
        refine a_aload_n C dX11_go_151 rfl 0 rfl rfl ?_
        refine g_11_8 C hE dX11_go_152 ho kw_5_230 rfl ?_
        have k152 : ms_is E (ms_at E o 8) 13 := ms_wt hE ho rfl (by decide)
        have n152 : ms_N E (ms_at E o 8) = 1613 := ms_wl hE ho (by decide) (by decide) rfl
        refine a_iconst (v := 5) C dX11_go_155 (by decide) rfl ?_
        obtain ⟨q156, h⟩ := h
        refine a_iald C dX11_go_156 k152 n152 q156 rfl ?_
        refine a_isub C dX11_go_157 rfl ?_
        refine a_icmp_le (tgt := 162) C dX11_go_158 (by decide) rfl (fun hc => ?_) (fun hc => ?_)
        · replace h := h.1 hc
          exact c_X11_go_162 C hr hlocks hE ho  (ms_sI u z2 (Int32.toNatClampNeg z1) z0) x2 x3 x4  h
        · replace h := h.2 hc
          refine a_sub (lv' := []) [] rfl ?_
          exact c_X11_go_161 C hr hlocks hE ho  (ms_sI u z2 (Int32.toNatClampNeg z1) z0)  h
def wp_X11_go_41 (E : ms_En) (o : Nat) (a1 : Int32) (post : ms_St → Prop)  (u : ms_St) (x2 : Int32) (x3 : Int32) (x4 : Int32) (z0 : Int32) : Prop := vp_in a1 3 ∧ (vp_in a1 3 ∧ (∀ w52 : ms_St, w52 = (ms_sI u (ms_at E o 19) (Int32.toNatClampNeg a1) ((ms_I u (ms_at E o 19) (Int32.toNatClampNeg a1)) + 1)) → (vp_in x4 36 ∧ (vp_in x4 36 ∧ (∀ w68 : ms_St, w68 = (ms_sI (ms_sI w52 (ms_at E o 21) (Int32.toNatClampNeg x4) x3) (ms_at E o 20) (Int32.toNatClampNeg x4) 4) → ((z0 = 0 → post w68) ∧ (¬ z0 = 0 → vp_in a1 3 ∧ (vp_in a1 3 ∧ (∀ w88 : ms_St, w88 = (ms_sI (ms_sI w68 (ms_at E o 17) (Int32.toNatClampNeg a1) x3) (ms_at E o 18) (Int32.toNatClampNeg a1) x2) → (((((ms_I w88 o 24) >>> (x2 &&& 31)) &&& 1) = 1 → wp_X11_go_112 E o a1 post w88 x2 x3 x4 2 x4 (ms_at E o 20)) ∧ (¬ (((ms_I w88 o 24) >>> (x2 &&& 31)) &&& 1) = 1 → wp_X11_go_112 E o a1 post w88 x2 x3 x4 3 x4 (ms_at E o 20))))))))))))
set_option maxHeartbeats 4000000 in
set_option maxRecDepth 100000 in
theorem c_X11_go_41 {p : Program} {l : Launch} {e : Env} {s : State} {m : MethodId} {args : Array Value} {below : List Frame} {meth : Method} {c : Code} {G : va_G} {cy : Nat → ClassId} {A : Nat → Prop} {L : Nat → Nat} {E : ms_En} (C : ms_Cx p m c cX11_go 7 s args (Cond.code ⟨"CensusWalkModel", "go", "(I)V"⟩ prog_13_method_47_code 7 none) "CensusWalkModel" G cy A) (hr : meth.sig.returnType = none) (hlocks : meth.locks = false) (hE : ms_WT E) {o : Nat} {a1 : Int32} {post : ms_St → Prop}  (ho : ms_is E o 11)  (u : ms_St) (x2 : Int32) (x3 : Int32) (x4 : Int32) (z0 : Int32)  (h : wp_X11_go_41 E o a1 post u x2 x3 x4 z0) : ms_At p l e ({ frames := 7, cells := 0, slots := 0, locals := 152 } : Room) s m args below meth c 7 G cy A L 0 0 (ms_QV below args s G cy L E A post 0 0) E u 41 [(0, .ref (L o)), (1, .int a1), (2, .int x2), (3, .int x3), (4, .int x4)] [.int z0] := by
  unfold wp_X11_go_41 at h
  refine a_istore (lv' := [(0, .ref (L o)), (1, .int a1), (2, .int x2), (3, .int x3), (4, .int x4), (5, .int z0)]) C dX11_go_41 (by decide) [1, 2, 3, 4, 5, 0] rfl rfl ?_
  refine a_aload_n C dX11_go_43 rfl 0 rfl rfl ?_
  refine g_11_19 C hE dX11_go_44 ho kw_6_1 rfl ?_
  have k44 : ms_is E (ms_at E o 19) 13 := ms_wt hE ho rfl (by decide)
  have n44 : ms_N E (ms_at E o 19) = 3 := ms_wl hE ho (by decide) (by decide) rfl
  refine a_iload_n C dX11_go_47 rfl 1 rfl rfl ?_
  refine a_dup2 C dX11_go_48 rfl rfl rfl ?_
  obtain ⟨q49, h⟩ := h
  refine a_iald C dX11_go_49 k44 n44 q49 rfl ?_
  refine a_iconst (v := 1) C dX11_go_50 (by decide) rfl ?_
  refine a_iadd C dX11_go_51 rfl ?_
  obtain ⟨q52, h⟩ := h
  refine a_iast C dX11_go_52 k44 n44 q52 rfl ?_
  refine a_nmU (fun w52 e52 => ?_)
  replace h := h w52 e52
  refine a_aload_n C dX11_go_53 rfl 0 rfl rfl ?_
  refine g_11_21 C hE dX11_go_54 ho kw_6_3 rfl ?_
  have k54 : ms_is E (ms_at E o 21) 13 := ms_wt hE ho rfl (by decide)
  have n54 : ms_N E (ms_at E o 21) = 36 := ms_wl hE ho (by decide) (by decide) rfl
  refine a_iload C dX11_go_57 4 rfl rfl ?_
  refine a_iload_n C dX11_go_59 rfl 3 rfl rfl ?_
  obtain ⟨q60, h⟩ := h
  refine a_iast C dX11_go_60 k54 n54 q60 rfl ?_
  refine a_aload_n C dX11_go_61 rfl 0 rfl rfl ?_
  refine g_11_20 C hE dX11_go_62 ho kw_6_2 rfl ?_
  have k62 : ms_is E (ms_at E o 20) 13 := ms_wt hE ho rfl (by decide)
  have n62 : ms_N E (ms_at E o 20) = 36 := ms_wl hE ho (by decide) (by decide) rfl
  refine a_iload C dX11_go_65 4 rfl rfl ?_
  refine a_iconst (v := 4) C dX11_go_67 (by decide) rfl ?_
  obtain ⟨q68, h⟩ := h
  refine a_iast C dX11_go_68 k62 n62 q68 rfl ?_
  refine a_nmU (fun w68 e68 => ?_)
  replace h := h w68 e68
  refine a_iload C dX11_go_69 5 rfl rfl ?_
  refine a_if_ne (tgt := 75) C dX11_go_71 (by decide) rfl (fun hc => ?_) (fun hc => ?_)
  · replace h := h.2 hc
    refine a_aload_n C dX11_go_75 rfl 0 rfl rfl ?_
    refine g_11_17 C hE dX11_go_76 ho kw_5_239 rfl ?_
    have k76 : ms_is E (ms_at E o 17) 13 := ms_wt hE ho rfl (by decide)
    have n76 : ms_N E (ms_at E o 17) = 3 := ms_wl hE ho (by decide) (by decide) rfl
    refine a_iload_n C dX11_go_79 rfl 1 rfl rfl ?_
    refine a_iload_n C dX11_go_80 rfl 3 rfl rfl ?_
    obtain ⟨q81, h⟩ := h
    refine a_iast C dX11_go_81 k76 n76 q81 rfl ?_
    refine a_aload_n C dX11_go_82 rfl 0 rfl rfl ?_
    refine g_11_18 C hE dX11_go_83 ho kw_6_0 rfl ?_
    have k83 : ms_is E (ms_at E o 18) 13 := ms_wt hE ho rfl (by decide)
    have n83 : ms_N E (ms_at E o 18) = 3 := ms_wl hE ho (by decide) (by decide) rfl
    refine a_iload_n C dX11_go_86 rfl 1 rfl rfl ?_
    refine a_iload_n C dX11_go_87 rfl 2 rfl rfl ?_
    obtain ⟨q88, h⟩ := h
    refine a_iast C dX11_go_88 k83 n83 q88 rfl ?_
    refine a_nmU (fun w88 e88 => ?_)
    replace h := h w88 e88
    refine a_aload_n C dX11_go_89 rfl 0 rfl rfl ?_
    refine g_11_20 C hE dX11_go_90 ho kw_6_2 rfl ?_
    refine a_iload C dX11_go_93 4 rfl rfl ?_
    refine a_aload_n C dX11_go_95 rfl 0 rfl rfl ?_
    refine g_11_24 C dX11_go_96 ho kw_6_6 rfl ?_
    refine a_iload_n C dX11_go_99 rfl 2 rfl rfl ?_
    refine a_ishr C dX11_go_100 rfl ?_
    refine a_iconst (v := 1) C dX11_go_101 (by decide) rfl ?_
    refine a_iand C dX11_go_102 rfl ?_
    refine a_iconst (v := 1) C dX11_go_103 (by decide) rfl ?_
    refine a_icmp_ne (tgt := 111) C dX11_go_104 (by decide) rfl (fun hc => ?_) (fun hc => ?_)
    · replace h := h.2 hc
      refine a_iconst (v := 3) C dX11_go_111 (by decide) rfl ?_
      refine a_sub (lv' := [(0, .ref (L o)), (1, .int a1), (2, .int x2), (3, .int x3), (4, .int x4)]) [0, 1, 2, 3, 4] rfl ?_
      exact c_X11_go_112 C hr hlocks hE ho  w88 x2 x3 x4 3 x4 (ms_at E o 20) k62 n62 h
    · replace h := h.1 hc
      refine a_iconst (v := 2) C dX11_go_107 (by decide) rfl ?_
      refine a_goto (tgt := 112) C dX11_go_108 (by decide) ?_
      refine a_sub (lv' := [(0, .ref (L o)), (1, .int a1), (2, .int x2), (3, .int x3), (4, .int x4)]) [0, 1, 2, 3, 4] rfl ?_
      exact c_X11_go_112 C hr hlocks hE ho  w88 x2 x3 x4 2 x4 (ms_at E o 20) k62 n62 h
  · replace h := h.1 hc
    exact a_vret C dX11_go_74 hr hlocks (Nat.le_of_ble_eq_true rfl) (Nat.le_of_ble_eq_true rfl) h
def wp_X11_go (E : ms_En) (u : ms_St) (o : Nat) (a1 : Int32) (post : ms_St → Prop) : Prop := wp_X11_nextHouse E u o a1 (fun r2 u2 => wp_X11_nextArrival E u2 o a1 (fun r8 u8 => vp_in a1 3 ∧ (∀ v23 : Int32, v23 = ((12 * a1) + (ms_I u8 (ms_at E o 19) (Int32.toNatClampNeg a1))) → (wp_X11_wayOf E u8 o a1 r2 (fun r28 u28 => (1000000 ≤ r28 → wp_X11_go_41 E o a1 post u28 r2 r8 v23 0) ∧ (¬ 1000000 ≤ r28 → wp_X11_go_41 E o a1 post u28 r2 r8 v23 1))))))
set_option maxHeartbeats 4000000 in
set_option maxRecDepth 100000 in
theorem c_X11_go (l : Launch) (G : va_G) (cy : Nat → ClassId) (L : Nat → Nat) (E : ms_En) (hE : ms_WT E) (u : ms_St) (o : Nat) (a1 : Int32) (ho : ms_is E o 11) (post : ms_St → Prop) (h : wp_X11_go E u o a1 post) : ms_MetV l ⟨"CensusWalkModel", "go", "(I)V"⟩ (Cond.code ⟨"CensusWalkModel", "go", "(I)V"⟩ prog_13_method_47_code 7 none :: lw_g) ({ frames := 7, cells := 0, slots := 0, locals := 152 } : Room) G cy L E [.ref (L o), .int a1] u post 0 0 := by
  refine ms_enterV (lv := [(0, .ref (L o)), (1, .int a1)]) (by decide) (Nat.le_of_ble_eq_true rfl) rfl ?_
  intro p e s m args below meth c A C hr hlocks
  unfold wp_X11_go at h
  refine a_aload_n C dX11_go_0 rfl 0 rfl rfl ?_
  refine a_iload_n C dX11_go_1 rfl 1 rfl rfl ?_
  refine a_callVI C (c_X11_nextHouse l G cy L E hE u o a1 ho _ h) ho rfl (by decide) kw_7_100 kw_7_102 kp_77 kw_1_12 kw_7_103 rfl rfl pd_X11_nextHouse ⟨(Nat.le_of_ble_eq_true rfl), (Nat.le_of_ble_eq_true rfl)⟩ dX11_go_2 rfl (Nat.le_of_ble_eq_true rfl) ⟨(Nat.le_of_ble_eq_true rfl), (Nat.le_of_ble_eq_true rfl)⟩ rfl (fun r2 u2 h => ?_)
  refine a_istore_n (lv' := [(0, .ref (L o)), (1, .int a1), (2, .int r2)]) C dX11_go_5 rfl (by decide) [1, 2, 0] rfl rfl ?_
  refine a_aload_n C dX11_go_6 rfl 0 rfl rfl ?_
  refine a_iload_n C dX11_go_7 rfl 1 rfl rfl ?_
  refine a_callVI C (c_X11_nextArrival l G cy L E hE u2 o a1 ho _ h) ho rfl (by decide) kw_7_96 kw_7_98 kp_76 kw_1_12 kw_7_99 rfl rfl pd_X11_nextArrival ⟨(Nat.le_of_ble_eq_true rfl), (Nat.le_of_ble_eq_true rfl)⟩ dX11_go_8 rfl (Nat.le_of_ble_eq_true rfl) ⟨(Nat.le_of_ble_eq_true rfl), (Nat.le_of_ble_eq_true rfl)⟩ rfl (fun r8 u8 h => ?_)
  refine a_istore_n (lv' := [(0, .ref (L o)), (1, .int a1), (2, .int r2), (3, .int r8)]) C dX11_go_11 rfl (by decide) [1, 2, 3, 0] rfl rfl ?_
  refine a_bipush (v := 12) C dX11_go_12 (by decide) rfl ?_
  refine a_iload_n C dX11_go_14 rfl 1 rfl rfl ?_
  refine a_imul C dX11_go_15 rfl ?_
  refine a_aload_n C dX11_go_16 rfl 0 rfl rfl ?_
  refine g_11_19 C hE dX11_go_17 ho kw_6_1 rfl ?_
  have k17 : ms_is E (ms_at E o 19) 13 := ms_wt hE ho rfl (by decide)
  have n17 : ms_N E (ms_at E o 19) = 3 := ms_wl hE ho (by decide) (by decide) rfl
  refine a_iload_n C dX11_go_20 rfl 1 rfl rfl ?_
  obtain ⟨q21, h⟩ := h
  refine a_iald C dX11_go_21 k17 n17 q21 rfl ?_
  refine a_iadd C dX11_go_22 rfl ?_
  refine a_nmI (fun v23 e23 => ?_)
  replace h := h v23 e23
  refine a_istore (lv' := [(0, .ref (L o)), (1, .int a1), (2, .int r2), (3, .int r8), (4, .int v23)]) C dX11_go_23 (by decide) [1, 2, 3, 4, 0] rfl rfl ?_
  refine a_aload_n C dX11_go_25 rfl 0 rfl rfl ?_
  refine a_iload_n C dX11_go_26 rfl 1 rfl rfl ?_
  refine a_iload_n C dX11_go_27 rfl 2 rfl rfl ?_
  refine a_callVI C (c_X11_wayOf l G cy L E hE u8 o a1 r2 ho _ h) ho rfl (by decide) kw_7_104 kw_7_106 kp_78 kw_1_12 kw_7_107 rfl rfl pd_X11_wayOf ⟨(Nat.le_of_ble_eq_true rfl), (Nat.le_of_ble_eq_true rfl)⟩ dX11_go_28 rfl (Nat.le_of_ble_eq_true rfl) ⟨(Nat.le_of_ble_eq_true rfl), (Nat.le_of_ble_eq_true rfl)⟩ rfl (fun r28 u28 h => ?_)
  refine a_ldc (v := 1000000) C dX11_go_31 kw_6_135 rfl ?_
  refine a_icmp_ge (tgt := 40) C dX11_go_33 (by decide) rfl (fun hc => ?_) (fun hc => ?_)
  · replace h := h.1 hc
    refine a_iconst (v := 0) C dX11_go_40 (by decide) rfl ?_
    exact c_X11_go_41 C hr hlocks hE ho  u28 r2 r8 v23 0  h
  · replace h := h.2 hc
    refine a_iconst (v := 1) C dX11_go_36 (by decide) rfl ?_
    refine a_goto (tgt := 41) C dX11_go_37 (by decide) ?_
    exact c_X11_go_41 C hr hlocks hE ho  u28 r2 r8 v23 1  h

/-! CensusWalkModel.simulate()V -/
theorem pd_X11_simulate : (⟨"CensusWalkModel", "simulate", "()V"⟩ : MethodName).cls = "CensusWalkModel" ∧ (⟨"CensusWalkModel", "simulate", "()V"⟩ : MethodName).cls ≠ "java/lang/invoke/MethodHandle" ∧ (⟨"CensusWalkModel", "simulate", "()V"⟩ : MethodName).cls ≠ "java/lang/invoke/VarHandle" ∧ (parseMethodDescriptor (⟨"CensusWalkModel", "simulate", "()V"⟩ : MethodName).desc).map (fun d => d.parameters.length) = some 0 := by decide +kernel
def wp_X11_simulate_84 (E : ms_En) (o : Nat) (post : ms_St → Prop)  : Nat → ms_St → Int32 → Prop
  | 0 => fun _ _ => False
  | n + 1 => fun u x1 => (x1 < 0 → post u) ∧ (¬ x1 < 0 → wp_X11_go E u o x1 (fun u90 => wp_X11_nextWalker E u90 o (fun r94 u94 => wp_X11_simulate_84 E o post n u94 r94)))
set_option maxHeartbeats 4000000 in
set_option maxRecDepth 100000 in
theorem c_X11_simulate_84 {p : Program} {l : Launch} {e : Env} {s : State} {m : MethodId} {args : Array Value} {below : List Frame} {meth : Method} {c : Code} {G : va_G} {cy : Nat → ClassId} {A : Nat → Prop} {L : Nat → Nat} {E : ms_En} (C : ms_Cx p m c cX11_simulate 2 s args (Cond.code ⟨"CensusWalkModel", "simulate", "()V"⟩ prog_13_method_45_code 2 none) "CensusWalkModel" G cy A) (hr : meth.sig.returnType = none) (hlocks : meth.locks = false) (hE : ms_WT E) {o : Nat} {post : ms_St → Prop}  (ho : ms_is E o 11)  : ∀ (n : Nat) (u : ms_St) (x1 : Int32), wp_X11_simulate_84 E o post n u x1 → ms_At p l e ({ frames := 8, cells := 0, slots := 0, locals := 178 } : Room) s m args below meth c 2 G cy A L 0 0 (ms_QV below args s G cy L E A post 0 0) E u 84 [(0, .ref (L o)), (1, .int x1)] [] := by
  intro n
  induction n with
  | zero =>
    intro u x1  h
    exact absurd h id
  | succ n ih =>
    intro u x1  h
    unfold wp_X11_simulate_84 at h
    refine a_iload_n C dX11_simulate_84 rfl 1 rfl rfl ?_
    refine a_if_lt (tgt := 101) C dX11_simulate_85 (by decide) rfl (fun hc => ?_) (fun hc => ?_)
    · replace h := h.1 hc
      exact a_vret C dX11_simulate_101 hr hlocks (Nat.le_of_ble_eq_true rfl) (Nat.le_of_ble_eq_true rfl) h
    · replace h := h.2 hc
      refine a_aload_n C dX11_simulate_88 rfl 0 rfl rfl ?_
      refine a_iload_n C dX11_simulate_89 rfl 1 rfl rfl ?_
      refine a_callVV C (c_X11_go l G cy L E hE u o x1 ho _ h) ho rfl (by decide) kw_7_108 kw_7_110 kp_79 kw_1_12 kw_7_111 rfl rfl pd_X11_go ⟨(Nat.le_of_ble_eq_true rfl), (Nat.le_of_ble_eq_true rfl)⟩ dX11_simulate_90 rfl (Nat.le_of_ble_eq_true rfl) ⟨(Nat.le_of_ble_eq_true rfl), (Nat.le_of_ble_eq_true rfl)⟩ rfl (fun u90 h => ?_)
      refine a_aload_n C dX11_simulate_93 rfl 0 rfl rfl ?_
      refine a_callVI C (c_X11_nextWalker l G cy L E hE u90 o ho _ h) ho rfl (by decide) kw_7_92 kw_7_94 kp_75 kw_1_12 kw_7_95 rfl rfl pd_X11_nextWalker ⟨(Nat.le_of_ble_eq_true rfl), (Nat.le_of_ble_eq_true rfl)⟩ dX11_simulate_94 rfl (Nat.le_of_ble_eq_true rfl) ⟨(Nat.le_of_ble_eq_true rfl), (Nat.le_of_ble_eq_true rfl)⟩ rfl (fun r94 u94 h => ?_)
      refine a_istore_n (lv' := [(0, .ref (L o)), (1, .int r94)]) C dX11_simulate_97 rfl (by decide) [1, 0] rfl rfl ?_
      refine a_goto (tgt := 84) C dX11_simulate_98 (by decide) ?_
      exact ih u94 r94  h
def wp_X11_simulate_32 (E : ms_En) (o : Nat) (post : ms_St → Prop)  : Nat → ms_St → Int32 → Prop
  | 0 => fun _ _ => False
  | n + 1 => fun u x1 => vp_in 3 1613 ∧ (((ms_I u (ms_at E o 8) (Int32.toNatClampNeg 3)) ≤ x1 → wp_X11_nextWalker E u o (fun r80 u80 => ∃ n84, wp_X11_simulate_84 E o post n84 u80 r80)) ∧ (¬ (ms_I u (ms_at E o 8) (Int32.toNatClampNeg 3)) ≤ x1 → wp_X11_walker E u x1 (fun r52 u52 => vp_in (r52 + 1) 1613 ∧ (vp_in x1 3 ∧ (∀ w58 : ms_St, w58 = (ms_sI u52 (ms_at E o 17) (Int32.toNatClampNeg x1) (ms_I u52 (ms_at E o 8) (Int32.toNatClampNeg (r52 + 1)))) → (vp_in x1 3 ∧ (vp_in x1 3 ∧ (∀ w72 : ms_St, w72 = (ms_sI (ms_sI w58 (ms_at E o 18) (Int32.toNatClampNeg x1) (-1)) (ms_at E o 19) (Int32.toNatClampNeg x1) 0) → (wp_X11_simulate_32 E o post n w72 (x1 + 1))))))))))
set_option maxHeartbeats 4000000 in
set_option maxRecDepth 100000 in
theorem c_X11_simulate_32 {p : Program} {l : Launch} {e : Env} {s : State} {m : MethodId} {args : Array Value} {below : List Frame} {meth : Method} {c : Code} {G : va_G} {cy : Nat → ClassId} {A : Nat → Prop} {L : Nat → Nat} {E : ms_En} (C : ms_Cx p m c cX11_simulate 2 s args (Cond.code ⟨"CensusWalkModel", "simulate", "()V"⟩ prog_13_method_45_code 2 none) "CensusWalkModel" G cy A) (hr : meth.sig.returnType = none) (hlocks : meth.locks = false) (hE : ms_WT E) {o : Nat} {post : ms_St → Prop}  (ho : ms_is E o 11)  : ∀ (n : Nat) (u : ms_St) (x1 : Int32), wp_X11_simulate_32 E o post n u x1 → ms_At p l e ({ frames := 8, cells := 0, slots := 0, locals := 178 } : Room) s m args below meth c 2 G cy A L 0 0 (ms_QV below args s G cy L E A post 0 0) E u 32 [(0, .ref (L o)), (1, .int x1)] [] := by
  intro n
  induction n with
  | zero =>
    intro u x1  h
    exact absurd h id
  | succ n ih =>
    intro u x1  h
    unfold wp_X11_simulate_32 at h
    refine a_iload_n C dX11_simulate_32 rfl 1 rfl rfl ?_
    refine a_aload_n C dX11_simulate_33 rfl 0 rfl rfl ?_
    refine g_11_8 C hE dX11_simulate_34 ho kw_5_230 rfl ?_
    have k34 : ms_is E (ms_at E o 8) 13 := ms_wt hE ho rfl (by decide)
    have n34 : ms_N E (ms_at E o 8) = 1613 := ms_wl hE ho (by decide) (by decide) rfl
    refine a_iconst (v := 3) C dX11_simulate_37 (by decide) rfl ?_
    obtain ⟨q38, h⟩ := h
    refine a_iald C dX11_simulate_38 k34 n34 q38 rfl ?_
    refine a_icmp_ge (tgt := 79) C dX11_simulate_39 (by decide) rfl (fun hc => ?_) (fun hc => ?_)
    · replace h := h.1 hc
      refine a_aload_n C dX11_simulate_79 rfl 0 rfl rfl ?_
      refine a_callVI C (c_X11_nextWalker l G cy L E hE u o ho _ h) ho rfl (by decide) kw_7_92 kw_7_94 kp_75 kw_1_12 kw_7_95 rfl rfl pd_X11_nextWalker ⟨(Nat.le_of_ble_eq_true rfl), (Nat.le_of_ble_eq_true rfl)⟩ dX11_simulate_80 rfl (Nat.le_of_ble_eq_true rfl) ⟨(Nat.le_of_ble_eq_true rfl), (Nat.le_of_ble_eq_true rfl)⟩ rfl (fun r80 u80 h => ?_)
      refine a_istore_n (lv' := [(0, .ref (L o)), (1, .int r80)]) C dX11_simulate_83 rfl (by decide) [1, 0] rfl rfl ?_
      obtain ⟨n9, h⟩ := h
      exact c_X11_simulate_84 C hr hlocks hE ho  n9 u80 r80  h
    · replace h := h.2 hc
      refine a_aload_n C dX11_simulate_42 rfl 0 rfl rfl ?_
      refine g_11_17 C hE dX11_simulate_43 ho kw_5_239 rfl ?_
      have k43 : ms_is E (ms_at E o 17) 13 := ms_wt hE ho rfl (by decide)
      have n43 : ms_N E (ms_at E o 17) = 3 := ms_wl hE ho (by decide) (by decide) rfl
      refine a_iload_n C dX11_simulate_46 rfl 1 rfl rfl ?_
      refine a_aload_n C dX11_simulate_47 rfl 0 rfl rfl ?_
      refine g_11_8 C hE dX11_simulate_48 ho kw_5_230 rfl ?_
      refine a_iload_n C dX11_simulate_51 rfl 1 rfl rfl ?_
      refine a_callSI C (c_X11_walker l G cy L E hE u x1  _ h) kw_6_169 kw_6_170 kw_1_12 kw_6_171 rfl rfl pd_X11_walker ⟨(Nat.le_of_ble_eq_true rfl), (Nat.le_of_ble_eq_true rfl)⟩ dX11_simulate_52 rfl (Nat.le_of_ble_eq_true rfl) ⟨(Nat.le_of_ble_eq_true rfl), (Nat.le_of_ble_eq_true rfl)⟩ rfl (fun r52 u52 h => ?_)
      refine a_iconst (v := 1) C dX11_simulate_55 (by decide) rfl ?_
      refine a_iadd C dX11_simulate_56 rfl ?_
      obtain ⟨q57, h⟩ := h
      refine a_iald C dX11_simulate_57 k34 n34 q57 rfl ?_
      obtain ⟨q58, h⟩ := h
      refine a_iast C dX11_simulate_58 k43 n43 q58 rfl ?_
      refine a_nmU (fun w58 e58 => ?_)
      replace h := h w58 e58
      refine a_aload_n C dX11_simulate_59 rfl 0 rfl rfl ?_
      refine g_11_18 C hE dX11_simulate_60 ho kw_6_0 rfl ?_
      have k60 : ms_is E (ms_at E o 18) 13 := ms_wt hE ho rfl (by decide)
      have n60 : ms_N E (ms_at E o 18) = 3 := ms_wl hE ho (by decide) (by decide) rfl
      refine a_iload_n C dX11_simulate_63 rfl 1 rfl rfl ?_
      refine a_iconst (v := (-1)) C dX11_simulate_64 (by decide) rfl ?_
      obtain ⟨q65, h⟩ := h
      refine a_iast C dX11_simulate_65 k60 n60 q65 rfl ?_
      refine a_aload_n C dX11_simulate_66 rfl 0 rfl rfl ?_
      refine g_11_19 C hE dX11_simulate_67 ho kw_6_1 rfl ?_
      have k67 : ms_is E (ms_at E o 19) 13 := ms_wt hE ho rfl (by decide)
      have n67 : ms_N E (ms_at E o 19) = 3 := ms_wl hE ho (by decide) (by decide) rfl
      refine a_iload_n C dX11_simulate_70 rfl 1 rfl rfl ?_
      refine a_iconst (v := 0) C dX11_simulate_71 (by decide) rfl ?_
      obtain ⟨q72, h⟩ := h
      refine a_iast C dX11_simulate_72 k67 n67 q72 rfl ?_
      refine a_nmU (fun w72 e72 => ?_)
      replace h := h w72 e72
      refine a_iinc (lv' := [(0, .ref (L o)), (1, .int (x1 + 1))]) (v := (x1 + 1)) C dX11_simulate_73 1 rfl (congrArg (fun z => x1 + z) (by decide)) (by decide) [1, 0] rfl rfl ?_
      refine a_goto (tgt := 32) C dX11_simulate_76 (by decide) ?_
      exact ih w72 (x1 + 1)  h
def wp_X11_simulate_11 (E : ms_En) (o : Nat) (post : ms_St → Prop)  : Nat → ms_St → Int32 → Prop
  | 0 => fun _ _ => False
  | n + 1 => fun u x1 => (16 ≤ x1 → ∃ n32, wp_X11_simulate_32 E o post n32 u 0) ∧ (¬ 16 ≤ x1 → vp_in x1 16 ∧ (wp_X11_simulate_11 E o post n (ms_sI u (ms_at E o 22) (Int32.toNatClampNeg x1) 0) (x1 + 1)))
set_option maxHeartbeats 4000000 in
set_option maxRecDepth 100000 in
theorem c_X11_simulate_11 {p : Program} {l : Launch} {e : Env} {s : State} {m : MethodId} {args : Array Value} {below : List Frame} {meth : Method} {c : Code} {G : va_G} {cy : Nat → ClassId} {A : Nat → Prop} {L : Nat → Nat} {E : ms_En} (C : ms_Cx p m c cX11_simulate 2 s args (Cond.code ⟨"CensusWalkModel", "simulate", "()V"⟩ prog_13_method_45_code 2 none) "CensusWalkModel" G cy A) (hr : meth.sig.returnType = none) (hlocks : meth.locks = false) (hE : ms_WT E) {o : Nat} {post : ms_St → Prop}  (ho : ms_is E o 11)  : ∀ (n : Nat) (u : ms_St) (x1 : Int32), wp_X11_simulate_11 E o post n u x1 → ms_At p l e ({ frames := 8, cells := 0, slots := 0, locals := 178 } : Room) s m args below meth c 2 G cy A L 0 0 (ms_QV below args s G cy L E A post 0 0) E u 11 [(0, .ref (L o)), (1, .int x1)] [] := by
  intro n
  induction n with
  | zero =>
    intro u x1  h
    exact absurd h id
  | succ n ih =>
    intro u x1  h
    unfold wp_X11_simulate_11 at h
    refine a_iload_n C dX11_simulate_11 rfl 1 rfl rfl ?_
    refine a_bipush (v := 16) C dX11_simulate_12 (by decide) rfl ?_
    refine a_icmp_ge (tgt := 30) C dX11_simulate_14 (by decide) rfl (fun hc => ?_) (fun hc => ?_)
    · replace h := h.1 hc
      refine a_iconst (v := 0) C dX11_simulate_30 (by decide) rfl ?_
      refine a_istore_n (lv' := [(0, .ref (L o)), (1, .int 0)]) C dX11_simulate_31 rfl (by decide) [1, 0] rfl rfl ?_
      obtain ⟨n9, h⟩ := h
      exact c_X11_simulate_32 C hr hlocks hE ho  n9 u 0  h
    · replace h := h.2 hc
      refine a_aload_n C dX11_simulate_17 rfl 0 rfl rfl ?_
      refine g_11_22 C hE dX11_simulate_18 ho kw_6_4 rfl ?_
      have k18 : ms_is E (ms_at E o 22) 13 := ms_wt hE ho rfl (by decide)
      have n18 : ms_N E (ms_at E o 22) = 16 := ms_wl hE ho (by decide) (by decide) rfl
      refine a_iload_n C dX11_simulate_21 rfl 1 rfl rfl ?_
      refine a_iconst (v := 0) C dX11_simulate_22 (by decide) rfl ?_
      obtain ⟨q23, h⟩ := h
      refine a_iast C dX11_simulate_23 k18 n18 q23 rfl ?_
      refine a_iinc (lv' := [(0, .ref (L o)), (1, .int (x1 + 1))]) (v := (x1 + 1)) C dX11_simulate_24 1 rfl (congrArg (fun z => x1 + z) (by decide)) (by decide) [1, 0] rfl rfl ?_
      refine a_goto (tgt := 11) C dX11_simulate_27 (by decide) ?_
      exact ih (ms_sI u (ms_at E o 22) (Int32.toNatClampNeg x1) 0) (x1 + 1)  h
def wp_X11_simulate (E : ms_En) (u : ms_St) (o : Nat) (post : ms_St → Prop) : Prop := wp_X11_findWays E u o (fun u1 => ∃ n11, wp_X11_simulate_11 E o post n11 (ms_sI u1 o 24 0) 0)
set_option maxHeartbeats 4000000 in
set_option maxRecDepth 100000 in
theorem c_X11_simulate (l : Launch) (G : va_G) (cy : Nat → ClassId) (L : Nat → Nat) (E : ms_En) (hE : ms_WT E) (u : ms_St) (o : Nat) (ho : ms_is E o 11) (post : ms_St → Prop) (h : wp_X11_simulate E u o post) : ms_MetV l ⟨"CensusWalkModel", "simulate", "()V"⟩ (Cond.code ⟨"CensusWalkModel", "simulate", "()V"⟩ prog_13_method_45_code 2 none :: lw_g) ({ frames := 8, cells := 0, slots := 0, locals := 178 } : Room) G cy L E [.ref (L o)] u post 0 0 := by
  refine ms_enterV (lv := [(0, .ref (L o))]) (by decide) (Nat.le_of_ble_eq_true rfl) rfl ?_
  intro p e s m args below meth c A C hr hlocks
  unfold wp_X11_simulate at h
  refine a_aload_n C dX11_simulate_0 rfl 0 rfl rfl ?_
  refine a_callVV C (c_X11_findWays l G cy L E hE u o ho _ h) ho rfl (by decide) kw_6_232 kw_6_234 kp_62 kw_1_12 kw_6_235 rfl rfl pd_X11_findWays ⟨(Nat.le_of_ble_eq_true rfl), (Nat.le_of_ble_eq_true rfl)⟩ dX11_simulate_1 rfl (Nat.le_of_ble_eq_true rfl) ⟨(Nat.le_of_ble_eq_true rfl), (Nat.le_of_ble_eq_true rfl)⟩ rfl (fun u1 h => ?_)
  refine a_aload_n C dX11_simulate_4 rfl 0 rfl rfl ?_
  refine a_iconst (v := 0) C dX11_simulate_5 (by decide) rfl ?_
  refine s_11_24 C dX11_simulate_6 ho kw_6_6 rfl ?_
  refine a_iconst (v := 0) C dX11_simulate_9 (by decide) rfl ?_
  refine a_istore_n (lv' := [(0, .ref (L o)), (1, .int 0)]) C dX11_simulate_10 rfl (by decide) [1, 0] rfl rfl ?_
  obtain ⟨n9, h⟩ := h
  exact c_X11_simulate_11 C hr hlocks hE ho  n9 (ms_sI u1 o 24 0) 0  h

/-! CensusWalkModel.noHouse(I)Z -/
theorem pd_X11_noHouse : (⟨"CensusWalkModel", "noHouse", "(I)Z"⟩ : MethodName).cls = "CensusWalkModel" ∧ (⟨"CensusWalkModel", "noHouse", "(I)Z"⟩ : MethodName).cls ≠ "java/lang/invoke/MethodHandle" ∧ (⟨"CensusWalkModel", "noHouse", "(I)Z"⟩ : MethodName).cls ≠ "java/lang/invoke/VarHandle" ∧ (parseMethodDescriptor (⟨"CensusWalkModel", "noHouse", "(I)Z"⟩ : MethodName).desc).map (fun d => d.parameters.length) = some 1 := by decide +kernel
def wp_X11_noHouse_22 (E : ms_En) (o : Nat) (a1 : Int32) (post : Int32 → ms_St → Prop)  (u : ms_St) (z0 : Int32) (z1 : Nat) : Prop := wp_X11_fails E u z1 z0 1 (fun r23 u23 => (r23 = 0 ∨ r23 = 1) ∧ (post r23 u23))
set_option maxHeartbeats 4000000 in
set_option maxRecDepth 100000 in
theorem c_X11_noHouse_22 {p : Program} {l : Launch} {e : Env} {s : State} {m : MethodId} {args : Array Value} {below : List Frame} {meth : Method} {c : Code} {G : va_G} {cy : Nat → ClassId} {A : Nat → Prop} {L : Nat → Nat} {E : ms_En} (C : ms_Cx p m c cX11_noHouse 2 s args (Cond.code ⟨"CensusWalkModel", "noHouse", "(I)Z"⟩ prog_13_method_48_code 2 (some .boolean)) "CensusWalkModel" G cy A) (hr : meth.sig.returnType = (some .boolean)) (hlocks : meth.locks = false) (hE : ms_WT E) {o : Nat} {a1 : Int32} {post : Int32 → ms_St → Prop}  (ho : ms_is E o 11)  (u : ms_St) (z0 : Int32) (z1 : Nat) (k_z1 : ms_is E z1 11) (h : wp_X11_noHouse_22 E o a1 post u z0 z1) : ms_At p l e ({ frames := 1, cells := 0, slots := 0, locals := 22 } : Room) s m args below meth c 2 G cy A L 0 0 (ms_QI below args s G cy L E A post 0 0) E u 22 [] [.int z0, .ref (L z1)] := by
  unfold wp_X11_noHouse_22 at h
  refine a_iconst (v := 1) C dX11_noHouse_22 (by decide) rfl ?_
  refine a_callVI C (c_X11_fails l G cy L E hE u z1 z0 1 k_z1 _ h) k_z1 rfl (by decide) kw_6_101 kw_6_103 kp_43 kw_1_12 kw_6_104 rfl rfl pd_X11_fails ⟨(Nat.le_of_ble_eq_true rfl), (Nat.le_of_ble_eq_true rfl)⟩ dX11_noHouse_23 rfl (Nat.le_of_ble_eq_true rfl) ⟨(Nat.le_of_ble_eq_true rfl), (Nat.le_of_ble_eq_true rfl)⟩ rfl (fun r23 u23 h => ?_)
  obtain ⟨q26, h⟩ := h
  exact a_zret C dX11_noHouse_26 hr hlocks (Nat.le_of_ble_eq_true rfl) (Nat.le_of_ble_eq_true rfl) (ms_nz q26) h
def wp_X11_noHouse (E : ms_En) (u : ms_St) (o : Nat) (a1 : Int32) (post : Int32 → ms_St → Prop) : Prop := vp_in 2 1613 ∧ (wp_X11_in E u a1 0 ((ms_I u (ms_at E o 8) (Int32.toNatClampNeg 2)) - 1) (fun r11 u11 => (r11 = 0 → wp_X11_noHouse_22 E o a1 post u11 1 o) ∧ (¬ r11 = 0 → wp_X11_noHouse_22 E o a1 post u11 0 o)))
set_option maxHeartbeats 4000000 in
set_option maxRecDepth 100000 in
theorem c_X11_noHouse (l : Launch) (G : va_G) (cy : Nat → ClassId) (L : Nat → Nat) (E : ms_En) (hE : ms_WT E) (u : ms_St) (o : Nat) (a1 : Int32) (ho : ms_is E o 11) (post : Int32 → ms_St → Prop) (h : wp_X11_noHouse E u o a1 post) : ms_MetI l ⟨"CensusWalkModel", "noHouse", "(I)Z"⟩ (Cond.code ⟨"CensusWalkModel", "noHouse", "(I)Z"⟩ prog_13_method_48_code 2 (some .boolean) :: lw_g) ({ frames := 1, cells := 0, slots := 0, locals := 22 } : Room) G cy L E [.ref (L o), .int a1] u post 0 0 := by
  refine ms_enterI (lv := [(0, .ref (L o)), (1, .int a1)]) (by decide) (Nat.le_of_ble_eq_true rfl) rfl ?_
  intro p e s m args below meth c A C hr hlocks
  unfold wp_X11_noHouse at h
  refine a_aload_n C dX11_noHouse_0 rfl 0 rfl rfl ?_
  refine a_iload_n C dX11_noHouse_1 rfl 1 rfl rfl ?_
  refine a_iconst (v := 0) C dX11_noHouse_2 (by decide) rfl ?_
  refine a_aload_n C dX11_noHouse_3 rfl 0 rfl rfl ?_
  refine g_11_8 C hE dX11_noHouse_4 ho kw_5_230 rfl ?_
  have k4 : ms_is E (ms_at E o 8) 13 := ms_wt hE ho rfl (by decide)
  have n4 : ms_N E (ms_at E o 8) = 1613 := ms_wl hE ho (by decide) (by decide) rfl
  refine a_iconst (v := 2) C dX11_noHouse_7 (by decide) rfl ?_
  obtain ⟨q8, h⟩ := h
  refine a_iald C dX11_noHouse_8 k4 n4 q8 rfl ?_
  refine a_iconst (v := 1) C dX11_noHouse_9 (by decide) rfl ?_
  refine a_isub C dX11_noHouse_10 rfl ?_
  refine a_callSI C (c_X11_in l G cy L E hE u a1 0 ((ms_I u (ms_at E o 8) (Int32.toNatClampNeg 2)) - 1)  _ h) kw_6_98 kw_6_99 kw_1_12 kw_6_100 rfl rfl pd_X11_in ⟨(Nat.le_of_ble_eq_true rfl), (Nat.le_of_ble_eq_true rfl)⟩ dX11_noHouse_11 rfl (Nat.le_of_ble_eq_true rfl) ⟨(Nat.le_of_ble_eq_true rfl), (Nat.le_of_ble_eq_true rfl)⟩ rfl (fun r11 u11 h => ?_)
  refine a_if_ne (tgt := 21) C dX11_noHouse_14 (by decide) rfl (fun hc => ?_) (fun hc => ?_)
  · replace h := h.2 hc
    refine a_iconst (v := 0) C dX11_noHouse_21 (by decide) rfl ?_
    refine a_sub (lv' := []) [] rfl ?_
    exact c_X11_noHouse_22 C hr hlocks hE ho  u11 0 o ho h
  · replace h := h.1 hc
    refine a_iconst (v := 1) C dX11_noHouse_17 (by decide) rfl ?_
    refine a_goto (tgt := 22) C dX11_noHouse_18 (by decide) ?_
    refine a_sub (lv' := []) [] rfl ?_
    exact c_X11_noHouse_22 C hr hlocks hE ho  u11 1 o ho h

/-! CensusWalkModel.noWalker(I)Z -/
theorem pd_X11_noWalker : (⟨"CensusWalkModel", "noWalker", "(I)Z"⟩ : MethodName).cls = "CensusWalkModel" ∧ (⟨"CensusWalkModel", "noWalker", "(I)Z"⟩ : MethodName).cls ≠ "java/lang/invoke/MethodHandle" ∧ (⟨"CensusWalkModel", "noWalker", "(I)Z"⟩ : MethodName).cls ≠ "java/lang/invoke/VarHandle" ∧ (parseMethodDescriptor (⟨"CensusWalkModel", "noWalker", "(I)Z"⟩ : MethodName).desc).map (fun d => d.parameters.length) = some 1 := by decide +kernel
def wp_X11_noWalker_22 (E : ms_En) (o : Nat) (a1 : Int32) (post : Int32 → ms_St → Prop)  (u : ms_St) (z0 : Int32) (z1 : Nat) : Prop := wp_X11_fails E u z1 z0 1 (fun r23 u23 => (r23 = 0 ∨ r23 = 1) ∧ (post r23 u23))
set_option maxHeartbeats 4000000 in
set_option maxRecDepth 100000 in
theorem c_X11_noWalker_22 {p : Program} {l : Launch} {e : Env} {s : State} {m : MethodId} {args : Array Value} {below : List Frame} {meth : Method} {c : Code} {G : va_G} {cy : Nat → ClassId} {A : Nat → Prop} {L : Nat → Nat} {E : ms_En} (C : ms_Cx p m c cX11_noWalker 2 s args (Cond.code ⟨"CensusWalkModel", "noWalker", "(I)Z"⟩ prog_13_method_49_code 2 (some .boolean)) "CensusWalkModel" G cy A) (hr : meth.sig.returnType = (some .boolean)) (hlocks : meth.locks = false) (hE : ms_WT E) {o : Nat} {a1 : Int32} {post : Int32 → ms_St → Prop}  (ho : ms_is E o 11)  (u : ms_St) (z0 : Int32) (z1 : Nat) (k_z1 : ms_is E z1 11) (h : wp_X11_noWalker_22 E o a1 post u z0 z1) : ms_At p l e ({ frames := 1, cells := 0, slots := 0, locals := 22 } : Room) s m args below meth c 2 G cy A L 0 0 (ms_QI below args s G cy L E A post 0 0) E u 22 [] [.int z0, .ref (L z1)] := by
  unfold wp_X11_noWalker_22 at h
  refine a_iconst (v := 1) C dX11_noWalker_22 (by decide) rfl ?_
  refine a_callVI C (c_X11_fails l G cy L E hE u z1 z0 1 k_z1 _ h) k_z1 rfl (by decide) kw_6_101 kw_6_103 kp_43 kw_1_12 kw_6_104 rfl rfl pd_X11_fails ⟨(Nat.le_of_ble_eq_true rfl), (Nat.le_of_ble_eq_true rfl)⟩ dX11_noWalker_23 rfl (Nat.le_of_ble_eq_true rfl) ⟨(Nat.le_of_ble_eq_true rfl), (Nat.le_of_ble_eq_true rfl)⟩ rfl (fun r23 u23 h => ?_)
  obtain ⟨q26, h⟩ := h
  exact a_zret C dX11_noWalker_26 hr hlocks (Nat.le_of_ble_eq_true rfl) (Nat.le_of_ble_eq_true rfl) (ms_nz q26) h
def wp_X11_noWalker (E : ms_En) (u : ms_St) (o : Nat) (a1 : Int32) (post : Int32 → ms_St → Prop) : Prop := vp_in 3 1613 ∧ (wp_X11_in E u a1 0 ((ms_I u (ms_at E o 8) (Int32.toNatClampNeg 3)) - 1) (fun r11 u11 => (r11 = 0 → wp_X11_noWalker_22 E o a1 post u11 1 o) ∧ (¬ r11 = 0 → wp_X11_noWalker_22 E o a1 post u11 0 o)))
set_option maxHeartbeats 4000000 in
set_option maxRecDepth 100000 in
theorem c_X11_noWalker (l : Launch) (G : va_G) (cy : Nat → ClassId) (L : Nat → Nat) (E : ms_En) (hE : ms_WT E) (u : ms_St) (o : Nat) (a1 : Int32) (ho : ms_is E o 11) (post : Int32 → ms_St → Prop) (h : wp_X11_noWalker E u o a1 post) : ms_MetI l ⟨"CensusWalkModel", "noWalker", "(I)Z"⟩ (Cond.code ⟨"CensusWalkModel", "noWalker", "(I)Z"⟩ prog_13_method_49_code 2 (some .boolean) :: lw_g) ({ frames := 1, cells := 0, slots := 0, locals := 22 } : Room) G cy L E [.ref (L o), .int a1] u post 0 0 := by
  refine ms_enterI (lv := [(0, .ref (L o)), (1, .int a1)]) (by decide) (Nat.le_of_ble_eq_true rfl) rfl ?_
  intro p e s m args below meth c A C hr hlocks
  unfold wp_X11_noWalker at h
  refine a_aload_n C dX11_noWalker_0 rfl 0 rfl rfl ?_
  refine a_iload_n C dX11_noWalker_1 rfl 1 rfl rfl ?_
  refine a_iconst (v := 0) C dX11_noWalker_2 (by decide) rfl ?_
  refine a_aload_n C dX11_noWalker_3 rfl 0 rfl rfl ?_
  refine g_11_8 C hE dX11_noWalker_4 ho kw_5_230 rfl ?_
  have k4 : ms_is E (ms_at E o 8) 13 := ms_wt hE ho rfl (by decide)
  have n4 : ms_N E (ms_at E o 8) = 1613 := ms_wl hE ho (by decide) (by decide) rfl
  refine a_iconst (v := 3) C dX11_noWalker_7 (by decide) rfl ?_
  obtain ⟨q8, h⟩ := h
  refine a_iald C dX11_noWalker_8 k4 n4 q8 rfl ?_
  refine a_iconst (v := 1) C dX11_noWalker_9 (by decide) rfl ?_
  refine a_isub C dX11_noWalker_10 rfl ?_
  refine a_callSI C (c_X11_in l G cy L E hE u a1 0 ((ms_I u (ms_at E o 8) (Int32.toNatClampNeg 3)) - 1)  _ h) kw_6_98 kw_6_99 kw_1_12 kw_6_100 rfl rfl pd_X11_in ⟨(Nat.le_of_ble_eq_true rfl), (Nat.le_of_ble_eq_true rfl)⟩ dX11_noWalker_11 rfl (Nat.le_of_ble_eq_true rfl) ⟨(Nat.le_of_ble_eq_true rfl), (Nat.le_of_ble_eq_true rfl)⟩ rfl (fun r11 u11 h => ?_)
  refine a_if_ne (tgt := 21) C dX11_noWalker_14 (by decide) rfl (fun hc => ?_) (fun hc => ?_)
  · replace h := h.2 hc
    refine a_iconst (v := 0) C dX11_noWalker_21 (by decide) rfl ?_
    refine a_sub (lv' := []) [] rfl ?_
    exact c_X11_noWalker_22 C hr hlocks hE ho  u11 0 o ho h
  · replace h := h.1 hc
    refine a_iconst (v := 1) C dX11_noWalker_17 (by decide) rfl ?_
    refine a_goto (tgt := 22) C dX11_noWalker_18 (by decide) ?_
    refine a_sub (lv' := []) [] rfl ?_
    exact c_X11_noWalker_22 C hr hlocks hE ho  u11 1 o ho h

/-! CensusWalkModel.noStreet(I)Z -/
theorem pd_X11_noStreet : (⟨"CensusWalkModel", "noStreet", "(I)Z"⟩ : MethodName).cls = "CensusWalkModel" ∧ (⟨"CensusWalkModel", "noStreet", "(I)Z"⟩ : MethodName).cls ≠ "java/lang/invoke/MethodHandle" ∧ (⟨"CensusWalkModel", "noStreet", "(I)Z"⟩ : MethodName).cls ≠ "java/lang/invoke/VarHandle" ∧ (parseMethodDescriptor (⟨"CensusWalkModel", "noStreet", "(I)Z"⟩ : MethodName).desc).map (fun d => d.parameters.length) = some 1 := by decide +kernel
def wp_X11_noStreet_22 (E : ms_En) (o : Nat) (a1 : Int32) (post : Int32 → ms_St → Prop)  (u : ms_St) (z0 : Int32) (z1 : Nat) : Prop := wp_X11_fails E u z1 z0 1 (fun r23 u23 => (r23 = 0 ∨ r23 = 1) ∧ (post r23 u23))
set_option maxHeartbeats 4000000 in
set_option maxRecDepth 100000 in
theorem c_X11_noStreet_22 {p : Program} {l : Launch} {e : Env} {s : State} {m : MethodId} {args : Array Value} {below : List Frame} {meth : Method} {c : Code} {G : va_G} {cy : Nat → ClassId} {A : Nat → Prop} {L : Nat → Nat} {E : ms_En} (C : ms_Cx p m c cX11_noStreet 2 s args (Cond.code ⟨"CensusWalkModel", "noStreet", "(I)Z"⟩ prog_13_method_50_code 2 (some .boolean)) "CensusWalkModel" G cy A) (hr : meth.sig.returnType = (some .boolean)) (hlocks : meth.locks = false) (hE : ms_WT E) {o : Nat} {a1 : Int32} {post : Int32 → ms_St → Prop}  (ho : ms_is E o 11)  (u : ms_St) (z0 : Int32) (z1 : Nat) (k_z1 : ms_is E z1 11) (h : wp_X11_noStreet_22 E o a1 post u z0 z1) : ms_At p l e ({ frames := 1, cells := 0, slots := 0, locals := 22 } : Room) s m args below meth c 2 G cy A L 0 0 (ms_QI below args s G cy L E A post 0 0) E u 22 [] [.int z0, .ref (L z1)] := by
  unfold wp_X11_noStreet_22 at h
  refine a_iconst (v := 1) C dX11_noStreet_22 (by decide) rfl ?_
  refine a_callVI C (c_X11_fails l G cy L E hE u z1 z0 1 k_z1 _ h) k_z1 rfl (by decide) kw_6_101 kw_6_103 kp_43 kw_1_12 kw_6_104 rfl rfl pd_X11_fails ⟨(Nat.le_of_ble_eq_true rfl), (Nat.le_of_ble_eq_true rfl)⟩ dX11_noStreet_23 rfl (Nat.le_of_ble_eq_true rfl) ⟨(Nat.le_of_ble_eq_true rfl), (Nat.le_of_ble_eq_true rfl)⟩ rfl (fun r23 u23 h => ?_)
  obtain ⟨q26, h⟩ := h
  exact a_zret C dX11_noStreet_26 hr hlocks (Nat.le_of_ble_eq_true rfl) (Nat.le_of_ble_eq_true rfl) (ms_nz q26) h
def wp_X11_noStreet (E : ms_En) (u : ms_St) (o : Nat) (a1 : Int32) (post : Int32 → ms_St → Prop) : Prop := vp_in 1 1613 ∧ (wp_X11_in E u a1 0 ((ms_I u (ms_at E o 8) (Int32.toNatClampNeg 1)) - 1) (fun r11 u11 => (r11 = 0 → wp_X11_noStreet_22 E o a1 post u11 1 o) ∧ (¬ r11 = 0 → wp_X11_noStreet_22 E o a1 post u11 0 o)))
set_option maxHeartbeats 4000000 in
set_option maxRecDepth 100000 in
theorem c_X11_noStreet (l : Launch) (G : va_G) (cy : Nat → ClassId) (L : Nat → Nat) (E : ms_En) (hE : ms_WT E) (u : ms_St) (o : Nat) (a1 : Int32) (ho : ms_is E o 11) (post : Int32 → ms_St → Prop) (h : wp_X11_noStreet E u o a1 post) : ms_MetI l ⟨"CensusWalkModel", "noStreet", "(I)Z"⟩ (Cond.code ⟨"CensusWalkModel", "noStreet", "(I)Z"⟩ prog_13_method_50_code 2 (some .boolean) :: lw_g) ({ frames := 1, cells := 0, slots := 0, locals := 22 } : Room) G cy L E [.ref (L o), .int a1] u post 0 0 := by
  refine ms_enterI (lv := [(0, .ref (L o)), (1, .int a1)]) (by decide) (Nat.le_of_ble_eq_true rfl) rfl ?_
  intro p e s m args below meth c A C hr hlocks
  unfold wp_X11_noStreet at h
  refine a_aload_n C dX11_noStreet_0 rfl 0 rfl rfl ?_
  refine a_iload_n C dX11_noStreet_1 rfl 1 rfl rfl ?_
  refine a_iconst (v := 0) C dX11_noStreet_2 (by decide) rfl ?_
  refine a_aload_n C dX11_noStreet_3 rfl 0 rfl rfl ?_
  refine g_11_8 C hE dX11_noStreet_4 ho kw_5_230 rfl ?_
  have k4 : ms_is E (ms_at E o 8) 13 := ms_wt hE ho rfl (by decide)
  have n4 : ms_N E (ms_at E o 8) = 1613 := ms_wl hE ho (by decide) (by decide) rfl
  refine a_iconst (v := 1) C dX11_noStreet_7 (by decide) rfl ?_
  obtain ⟨q8, h⟩ := h
  refine a_iald C dX11_noStreet_8 k4 n4 q8 rfl ?_
  refine a_iconst (v := 1) C dX11_noStreet_9 (by decide) rfl ?_
  refine a_isub C dX11_noStreet_10 rfl ?_
  refine a_callSI C (c_X11_in l G cy L E hE u a1 0 ((ms_I u (ms_at E o 8) (Int32.toNatClampNeg 1)) - 1)  _ h) kw_6_98 kw_6_99 kw_1_12 kw_6_100 rfl rfl pd_X11_in ⟨(Nat.le_of_ble_eq_true rfl), (Nat.le_of_ble_eq_true rfl)⟩ dX11_noStreet_11 rfl (Nat.le_of_ble_eq_true rfl) ⟨(Nat.le_of_ble_eq_true rfl), (Nat.le_of_ble_eq_true rfl)⟩ rfl (fun r11 u11 h => ?_)
  refine a_if_ne (tgt := 21) C dX11_noStreet_14 (by decide) rfl (fun hc => ?_) (fun hc => ?_)
  · replace h := h.2 hc
    refine a_iconst (v := 0) C dX11_noStreet_21 (by decide) rfl ?_
    refine a_sub (lv' := []) [] rfl ?_
    exact c_X11_noStreet_22 C hr hlocks hE ho  u11 0 o ho h
  · replace h := h.1 hc
    refine a_iconst (v := 1) C dX11_noStreet_17 (by decide) rfl ?_
    refine a_goto (tgt := 22) C dX11_noStreet_18 (by decide) ?_
    refine a_sub (lv' := []) [] rfl ?_
    exact c_X11_noStreet_22 C hr hlocks hE ho  u11 1 o ho h

/-! CensusWalkModel.crossingCount()I -/
theorem pd_X11_crossingCount : (⟨"CensusWalkModel", "crossingCount", "()I"⟩ : MethodName).cls = "CensusWalkModel" ∧ (⟨"CensusWalkModel", "crossingCount", "()I"⟩ : MethodName).cls ≠ "java/lang/invoke/MethodHandle" ∧ (⟨"CensusWalkModel", "crossingCount", "()I"⟩ : MethodName).cls ≠ "java/lang/invoke/VarHandle" ∧ (parseMethodDescriptor (⟨"CensusWalkModel", "crossingCount", "()I"⟩ : MethodName).desc).map (fun d => d.parameters.length) = some 0 := by decide +kernel
def wp_X11_crossingCount (E : ms_En) (u : ms_St) (o : Nat) (post : Int32 → ms_St → Prop) : Prop := vp_in 0 1613 ∧ (post (ms_I (ms_sI u o 0 0) (ms_at E o 8) (Int32.toNatClampNeg 0)) (ms_sI u o 0 0))
set_option maxHeartbeats 4000000 in
set_option maxRecDepth 100000 in
theorem c_X11_crossingCount (l : Launch) (G : va_G) (cy : Nat → ClassId) (L : Nat → Nat) (E : ms_En) (hE : ms_WT E) (u : ms_St) (o : Nat) (ho : ms_is E o 11) (post : Int32 → ms_St → Prop) (h : wp_X11_crossingCount E u o post) : ms_MetI l ⟨"CensusWalkModel", "crossingCount", "()I"⟩ (Cond.code ⟨"CensusWalkModel", "crossingCount", "()I"⟩ prog_13_method_51_code 1 (some .int) :: lw_g) ({ frames := 0, cells := 0, slots := 0, locals := 0 } : Room) G cy L E [.ref (L o)] u post 0 0 := by
  refine ms_enterI (lv := [(0, .ref (L o))]) (by decide) (Nat.le_of_ble_eq_true rfl) rfl ?_
  intro p e s m args below meth c A C hr hlocks
  unfold wp_X11_crossingCount at h
  refine a_aload_n C dX11_crossingCount_0 rfl 0 rfl rfl ?_
  refine a_iconst (v := 0) C dX11_crossingCount_1 (by decide) rfl ?_
  refine s_11_0 C dX11_crossingCount_2 ho kw_5_222 rfl ?_
  refine a_aload_n C dX11_crossingCount_5 rfl 0 rfl rfl ?_
  refine g_11_8 C hE dX11_crossingCount_6 ho kw_5_230 rfl ?_
  have k6 : ms_is E (ms_at E o 8) 13 := ms_wt hE ho rfl (by decide)
  have n6 : ms_N E (ms_at E o 8) = 1613 := ms_wl hE ho (by decide) (by decide) rfl
  refine a_iconst (v := 0) C dX11_crossingCount_9 (by decide) rfl ?_
  obtain ⟨q10, h⟩ := h
  refine a_iald C dX11_crossingCount_10 k6 n6 q10 rfl ?_
  exact a_iret C dX11_crossingCount_11 hr hlocks (Nat.le_of_ble_eq_true rfl) (Nat.le_of_ble_eq_true rfl) h

/-! CensusWalkModel.streetCount()I -/
theorem pd_X11_streetCount : (⟨"CensusWalkModel", "streetCount", "()I"⟩ : MethodName).cls = "CensusWalkModel" ∧ (⟨"CensusWalkModel", "streetCount", "()I"⟩ : MethodName).cls ≠ "java/lang/invoke/MethodHandle" ∧ (⟨"CensusWalkModel", "streetCount", "()I"⟩ : MethodName).cls ≠ "java/lang/invoke/VarHandle" ∧ (parseMethodDescriptor (⟨"CensusWalkModel", "streetCount", "()I"⟩ : MethodName).desc).map (fun d => d.parameters.length) = some 0 := by decide +kernel
def wp_X11_streetCount (E : ms_En) (u : ms_St) (o : Nat) (post : Int32 → ms_St → Prop) : Prop := vp_in 1 1613 ∧ (post (ms_I (ms_sI u o 0 0) (ms_at E o 8) (Int32.toNatClampNeg 1)) (ms_sI u o 0 0))
set_option maxHeartbeats 4000000 in
set_option maxRecDepth 100000 in
theorem c_X11_streetCount (l : Launch) (G : va_G) (cy : Nat → ClassId) (L : Nat → Nat) (E : ms_En) (hE : ms_WT E) (u : ms_St) (o : Nat) (ho : ms_is E o 11) (post : Int32 → ms_St → Prop) (h : wp_X11_streetCount E u o post) : ms_MetI l ⟨"CensusWalkModel", "streetCount", "()I"⟩ (Cond.code ⟨"CensusWalkModel", "streetCount", "()I"⟩ prog_13_method_52_code 1 (some .int) :: lw_g) ({ frames := 0, cells := 0, slots := 0, locals := 0 } : Room) G cy L E [.ref (L o)] u post 0 0 := by
  refine ms_enterI (lv := [(0, .ref (L o))]) (by decide) (Nat.le_of_ble_eq_true rfl) rfl ?_
  intro p e s m args below meth c A C hr hlocks
  unfold wp_X11_streetCount at h
  refine a_aload_n C dX11_streetCount_0 rfl 0 rfl rfl ?_
  refine a_iconst (v := 0) C dX11_streetCount_1 (by decide) rfl ?_
  refine s_11_0 C dX11_streetCount_2 ho kw_5_222 rfl ?_
  refine a_aload_n C dX11_streetCount_5 rfl 0 rfl rfl ?_
  refine g_11_8 C hE dX11_streetCount_6 ho kw_5_230 rfl ?_
  have k6 : ms_is E (ms_at E o 8) 13 := ms_wt hE ho rfl (by decide)
  have n6 : ms_N E (ms_at E o 8) = 1613 := ms_wl hE ho (by decide) (by decide) rfl
  refine a_iconst (v := 1) C dX11_streetCount_9 (by decide) rfl ?_
  obtain ⟨q10, h⟩ := h
  refine a_iald C dX11_streetCount_10 k6 n6 q10 rfl ?_
  exact a_iret C dX11_streetCount_11 hr hlocks (Nat.le_of_ble_eq_true rfl) (Nat.le_of_ble_eq_true rfl) h

/-! CensusWalkModel.houseCount()I -/
theorem pd_X11_houseCount : (⟨"CensusWalkModel", "houseCount", "()I"⟩ : MethodName).cls = "CensusWalkModel" ∧ (⟨"CensusWalkModel", "houseCount", "()I"⟩ : MethodName).cls ≠ "java/lang/invoke/MethodHandle" ∧ (⟨"CensusWalkModel", "houseCount", "()I"⟩ : MethodName).cls ≠ "java/lang/invoke/VarHandle" ∧ (parseMethodDescriptor (⟨"CensusWalkModel", "houseCount", "()I"⟩ : MethodName).desc).map (fun d => d.parameters.length) = some 0 := by decide +kernel
def wp_X11_houseCount (E : ms_En) (u : ms_St) (o : Nat) (post : Int32 → ms_St → Prop) : Prop := vp_in 2 1613 ∧ (post (ms_I (ms_sI u o 0 0) (ms_at E o 8) (Int32.toNatClampNeg 2)) (ms_sI u o 0 0))
set_option maxHeartbeats 4000000 in
set_option maxRecDepth 100000 in
theorem c_X11_houseCount (l : Launch) (G : va_G) (cy : Nat → ClassId) (L : Nat → Nat) (E : ms_En) (hE : ms_WT E) (u : ms_St) (o : Nat) (ho : ms_is E o 11) (post : Int32 → ms_St → Prop) (h : wp_X11_houseCount E u o post) : ms_MetI l ⟨"CensusWalkModel", "houseCount", "()I"⟩ (Cond.code ⟨"CensusWalkModel", "houseCount", "()I"⟩ prog_13_method_53_code 1 (some .int) :: lw_g) ({ frames := 0, cells := 0, slots := 0, locals := 0 } : Room) G cy L E [.ref (L o)] u post 0 0 := by
  refine ms_enterI (lv := [(0, .ref (L o))]) (by decide) (Nat.le_of_ble_eq_true rfl) rfl ?_
  intro p e s m args below meth c A C hr hlocks
  unfold wp_X11_houseCount at h
  refine a_aload_n C dX11_houseCount_0 rfl 0 rfl rfl ?_
  refine a_iconst (v := 0) C dX11_houseCount_1 (by decide) rfl ?_
  refine s_11_0 C dX11_houseCount_2 ho kw_5_222 rfl ?_
  refine a_aload_n C dX11_houseCount_5 rfl 0 rfl rfl ?_
  refine g_11_8 C hE dX11_houseCount_6 ho kw_5_230 rfl ?_
  have k6 : ms_is E (ms_at E o 8) 13 := ms_wt hE ho rfl (by decide)
  have n6 : ms_N E (ms_at E o 8) = 1613 := ms_wl hE ho (by decide) (by decide) rfl
  refine a_iconst (v := 2) C dX11_houseCount_9 (by decide) rfl ?_
  obtain ⟨q10, h⟩ := h
  refine a_iald C dX11_houseCount_10 k6 n6 q10 rfl ?_
  exact a_iret C dX11_houseCount_11 hr hlocks (Nat.le_of_ble_eq_true rfl) (Nat.le_of_ble_eq_true rfl) h

/-! CensusWalkModel.walkerCount()I -/
theorem pd_X11_walkerCount : (⟨"CensusWalkModel", "walkerCount", "()I"⟩ : MethodName).cls = "CensusWalkModel" ∧ (⟨"CensusWalkModel", "walkerCount", "()I"⟩ : MethodName).cls ≠ "java/lang/invoke/MethodHandle" ∧ (⟨"CensusWalkModel", "walkerCount", "()I"⟩ : MethodName).cls ≠ "java/lang/invoke/VarHandle" ∧ (parseMethodDescriptor (⟨"CensusWalkModel", "walkerCount", "()I"⟩ : MethodName).desc).map (fun d => d.parameters.length) = some 0 := by decide +kernel
def wp_X11_walkerCount (E : ms_En) (u : ms_St) (o : Nat) (post : Int32 → ms_St → Prop) : Prop := vp_in 3 1613 ∧ (post (ms_I (ms_sI u o 0 0) (ms_at E o 8) (Int32.toNatClampNeg 3)) (ms_sI u o 0 0))
set_option maxHeartbeats 4000000 in
set_option maxRecDepth 100000 in
theorem c_X11_walkerCount (l : Launch) (G : va_G) (cy : Nat → ClassId) (L : Nat → Nat) (E : ms_En) (hE : ms_WT E) (u : ms_St) (o : Nat) (ho : ms_is E o 11) (post : Int32 → ms_St → Prop) (h : wp_X11_walkerCount E u o post) : ms_MetI l ⟨"CensusWalkModel", "walkerCount", "()I"⟩ (Cond.code ⟨"CensusWalkModel", "walkerCount", "()I"⟩ prog_13_method_54_code 1 (some .int) :: lw_g) ({ frames := 0, cells := 0, slots := 0, locals := 0 } : Room) G cy L E [.ref (L o)] u post 0 0 := by
  refine ms_enterI (lv := [(0, .ref (L o))]) (by decide) (Nat.le_of_ble_eq_true rfl) rfl ?_
  intro p e s m args below meth c A C hr hlocks
  unfold wp_X11_walkerCount at h
  refine a_aload_n C dX11_walkerCount_0 rfl 0 rfl rfl ?_
  refine a_iconst (v := 0) C dX11_walkerCount_1 (by decide) rfl ?_
  refine s_11_0 C dX11_walkerCount_2 ho kw_5_222 rfl ?_
  refine a_aload_n C dX11_walkerCount_5 rfl 0 rfl rfl ?_
  refine g_11_8 C hE dX11_walkerCount_6 ho kw_5_230 rfl ?_
  have k6 : ms_is E (ms_at E o 8) 13 := ms_wt hE ho rfl (by decide)
  have n6 : ms_N E (ms_at E o 8) = 1613 := ms_wl hE ho (by decide) (by decide) rfl
  refine a_iconst (v := 3) C dX11_walkerCount_9 (by decide) rfl ?_
  obtain ⟨q10, h⟩ := h
  refine a_iald C dX11_walkerCount_10 k6 n6 q10 rfl ?_
  exact a_iret C dX11_walkerCount_11 hr hlocks (Nat.le_of_ble_eq_true rfl) (Nat.le_of_ble_eq_true rfl) h

/-! CensusWalkModel.distance(II)I -/
theorem pd_X11_distance : (⟨"CensusWalkModel", "distance", "(II)I"⟩ : MethodName).cls = "CensusWalkModel" ∧ (⟨"CensusWalkModel", "distance", "(II)I"⟩ : MethodName).cls ≠ "java/lang/invoke/MethodHandle" ∧ (⟨"CensusWalkModel", "distance", "(II)I"⟩ : MethodName).cls ≠ "java/lang/invoke/VarHandle" ∧ (parseMethodDescriptor (⟨"CensusWalkModel", "distance", "(II)I"⟩ : MethodName).desc).map (fun d => d.parameters.length) = some 2 := by decide +kernel
def wp_X11_distance_21 (E : ms_En) (o : Nat) (a1 : Int32) (a2 : Int32) (post : Int32 → ms_St → Prop)  (u : ms_St)  : Prop := post 0 u
set_option maxHeartbeats 4000000 in
set_option maxRecDepth 100000 in
theorem c_X11_distance_21 {p : Program} {l : Launch} {e : Env} {s : State} {m : MethodId} {args : Array Value} {below : List Frame} {meth : Method} {c : Code} {G : va_G} {cy : Nat → ClassId} {A : Nat → Prop} {L : Nat → Nat} {E : ms_En} (C : ms_Cx p m c cX11_distance 3 s args (Cond.code ⟨"CensusWalkModel", "distance", "(II)I"⟩ prog_13_method_55_code 3 (some .int)) "CensusWalkModel" G cy A) (hr : meth.sig.returnType = (some .int)) (hlocks : meth.locks = false) (hE : ms_WT E) {o : Nat} {a1 : Int32} {a2 : Int32} {post : Int32 → ms_St → Prop}  (ho : ms_is E o 11)  (u : ms_St)   (h : wp_X11_distance_21 E o a1 a2 post u ) : ms_At p l e ({ frames := 5, cells := 0, slots := 0, locals := 108 } : Room) s m args below meth c 3 G cy A L 0 0 (ms_QI below args s G cy L E A post 0 0) E u 21 [] [] := by
  unfold wp_X11_distance_21 at h
  refine a_iconst (v := 0) C dX11_distance_21 (by decide) rfl ?_
  exact a_iret C dX11_distance_22 hr hlocks (Nat.le_of_ble_eq_true rfl) (Nat.le_of_ble_eq_true rfl) h
def wp_X11_distance (E : ms_En) (u : ms_St) (o : Nat) (a1 : Int32) (a2 : Int32) (post : Int32 → ms_St → Prop) : Prop := wp_X11_noHouse E (ms_sI u o 0 0) o a1 (fun r7 u7 => (r7 = 0 → wp_X11_noHouse E u7 o a2 (fun r15 u15 => (r15 = 0 → wp_X11_findWays E u15 o (fun u24 => wp_X11_between E u24 o a1 a2 (fun r30 u30 => wp_X11_told E u30 r30 (fun r33 u33 => post r33 u33)))) ∧ (¬ r15 = 0 → wp_X11_distance_21 E o a1 a2 post u15))) ∧ (¬ r7 = 0 → wp_X11_distance_21 E o a1 a2 post u7))
set_option maxHeartbeats 4000000 in
set_option maxRecDepth 100000 in
theorem c_X11_distance (l : Launch) (G : va_G) (cy : Nat → ClassId) (L : Nat → Nat) (E : ms_En) (hE : ms_WT E) (u : ms_St) (o : Nat) (a1 : Int32) (a2 : Int32) (ho : ms_is E o 11) (post : Int32 → ms_St → Prop) (h : wp_X11_distance E u o a1 a2 post) : ms_MetI l ⟨"CensusWalkModel", "distance", "(II)I"⟩ (Cond.code ⟨"CensusWalkModel", "distance", "(II)I"⟩ prog_13_method_55_code 3 (some .int) :: lw_g) ({ frames := 5, cells := 0, slots := 0, locals := 108 } : Room) G cy L E [.ref (L o), .int a1, .int a2] u post 0 0 := by
  refine ms_enterI (lv := [(0, .ref (L o)), (1, .int a1), (2, .int a2)]) (by decide) (Nat.le_of_ble_eq_true rfl) rfl ?_
  intro p e s m args below meth c A C hr hlocks
  unfold wp_X11_distance at h
  refine a_aload_n C dX11_distance_0 rfl 0 rfl rfl ?_
  refine a_iconst (v := 0) C dX11_distance_1 (by decide) rfl ?_
  refine s_11_0 C dX11_distance_2 ho kw_5_222 rfl ?_
  refine a_aload_n C dX11_distance_5 rfl 0 rfl rfl ?_
  refine a_iload_n C dX11_distance_6 rfl 1 rfl rfl ?_
  refine a_callVI C (c_X11_noHouse l G cy L E hE (ms_sI u o 0 0) o a1 ho _ h) ho rfl (by decide) kw_6_228 kw_6_230 kp_61 kw_1_12 kw_6_231 rfl rfl pd_X11_noHouse ⟨(Nat.le_of_ble_eq_true rfl), (Nat.le_of_ble_eq_true rfl)⟩ dX11_distance_7 rfl (Nat.le_of_ble_eq_true rfl) ⟨(Nat.le_of_ble_eq_true rfl), (Nat.le_of_ble_eq_true rfl)⟩ rfl (fun r7 u7 h => ?_)
  refine a_if_ne (tgt := 21) C dX11_distance_10 (by decide) rfl (fun hc => ?_) (fun hc => ?_)
  · replace h := h.2 hc
    refine a_sub (lv' := []) [] rfl ?_
    exact c_X11_distance_21 C hr hlocks hE ho  u7  h
  · replace h := h.1 hc
    refine a_aload_n C dX11_distance_13 rfl 0 rfl rfl ?_
    refine a_iload_n C dX11_distance_14 rfl 2 rfl rfl ?_
    refine a_callVI C (c_X11_noHouse l G cy L E hE u7 o a2 ho _ h) ho rfl (by decide) kw_6_228 kw_6_230 kp_61 kw_1_12 kw_6_231 rfl rfl pd_X11_noHouse ⟨(Nat.le_of_ble_eq_true rfl), (Nat.le_of_ble_eq_true rfl)⟩ dX11_distance_15 rfl (Nat.le_of_ble_eq_true rfl) ⟨(Nat.le_of_ble_eq_true rfl), (Nat.le_of_ble_eq_true rfl)⟩ rfl (fun r15 u15 h => ?_)
    refine a_if_eq (tgt := 23) C dX11_distance_18 (by decide) rfl (fun hc => ?_) (fun hc => ?_)
    · replace h := h.1 hc
      refine a_aload_n C dX11_distance_23 rfl 0 rfl rfl ?_
      refine a_callVV C (c_X11_findWays l G cy L E hE u15 o ho _ h) ho rfl (by decide) kw_6_232 kw_6_234 kp_62 kw_1_12 kw_6_235 rfl rfl pd_X11_findWays ⟨(Nat.le_of_ble_eq_true rfl), (Nat.le_of_ble_eq_true rfl)⟩ dX11_distance_24 rfl (Nat.le_of_ble_eq_true rfl) ⟨(Nat.le_of_ble_eq_true rfl), (Nat.le_of_ble_eq_true rfl)⟩ rfl (fun u24 h => ?_)
      refine a_aload_n C dX11_distance_27 rfl 0 rfl rfl ?_
      refine a_iload_n C dX11_distance_28 rfl 1 rfl rfl ?_
      refine a_iload_n C dX11_distance_29 rfl 2 rfl rfl ?_
      refine a_callVI C (c_X11_between l G cy L E hE u24 o a1 a2 ho _ h) ho rfl (by decide) kw_6_236 kw_6_238 kp_63 kw_1_12 kw_6_239 rfl rfl pd_X11_between ⟨(Nat.le_of_ble_eq_true rfl), (Nat.le_of_ble_eq_true rfl)⟩ dX11_distance_30 rfl (Nat.le_of_ble_eq_true rfl) ⟨(Nat.le_of_ble_eq_true rfl), (Nat.le_of_ble_eq_true rfl)⟩ rfl (fun r30 u30 h => ?_)
      refine a_callSI C (c_X11_told l G cy L E hE u30 r30  _ h) kw_7_20 kw_7_21 kw_1_12 kw_7_22 rfl rfl pd_X11_told ⟨(Nat.le_of_ble_eq_true rfl), (Nat.le_of_ble_eq_true rfl)⟩ dX11_distance_33 rfl (Nat.le_of_ble_eq_true rfl) ⟨(Nat.le_of_ble_eq_true rfl), (Nat.le_of_ble_eq_true rfl)⟩ rfl (fun r33 u33 h => ?_)
      exact a_iret C dX11_distance_36 hr hlocks (Nat.le_of_ble_eq_true rfl) (Nat.le_of_ble_eq_true rfl) h
    · replace h := h.2 hc
      refine a_sub (lv' := []) [] rfl ?_
      exact c_X11_distance_21 C hr hlocks hE ho  u15  h

/-! CensusWalkModel.distanceFrom(II)I -/
theorem pd_X11_distanceFrom : (⟨"CensusWalkModel", "distanceFrom", "(II)I"⟩ : MethodName).cls = "CensusWalkModel" ∧ (⟨"CensusWalkModel", "distanceFrom", "(II)I"⟩ : MethodName).cls ≠ "java/lang/invoke/MethodHandle" ∧ (⟨"CensusWalkModel", "distanceFrom", "(II)I"⟩ : MethodName).cls ≠ "java/lang/invoke/VarHandle" ∧ (parseMethodDescriptor (⟨"CensusWalkModel", "distanceFrom", "(II)I"⟩ : MethodName).desc).map (fun d => d.parameters.length) = some 2 := by decide +kernel
def wp_X11_distanceFrom_42 (E : ms_En) (o : Nat) (a1 : Int32) (a2 : Int32) (post : Int32 → ms_St → Prop)  (u : ms_St)  : Prop := post 0 u
set_option maxHeartbeats 4000000 in
set_option maxRecDepth 100000 in
theorem c_X11_distanceFrom_42 {p : Program} {l : Launch} {e : Env} {s : State} {m : MethodId} {args : Array Value} {below : List Frame} {meth : Method} {c : Code} {G : va_G} {cy : Nat → ClassId} {A : Nat → Prop} {L : Nat → Nat} {E : ms_En} (C : ms_Cx p m c cX11_distanceFrom 3 s args (Cond.code ⟨"CensusWalkModel", "distanceFrom", "(II)I"⟩ prog_13_method_56_code 3 (some .int)) "CensusWalkModel" G cy A) (hr : meth.sig.returnType = (some .int)) (hlocks : meth.locks = false) (hE : ms_WT E) {o : Nat} {a1 : Int32} {a2 : Int32} {post : Int32 → ms_St → Prop}  (ho : ms_is E o 11)  (u : ms_St)   (h : wp_X11_distanceFrom_42 E o a1 a2 post u ) : ms_At p l e ({ frames := 4, cells := 0, slots := 0, locals := 84 } : Room) s m args below meth c 3 G cy A L 0 0 (ms_QI below args s G cy L E A post 0 0) E u 42 [] [] := by
  unfold wp_X11_distanceFrom_42 at h
  refine a_iconst (v := 0) C dX11_distanceFrom_42 (by decide) rfl ?_
  exact a_iret C dX11_distanceFrom_43 hr hlocks (Nat.le_of_ble_eq_true rfl) (Nat.le_of_ble_eq_true rfl) h
def wp_X11_distanceFrom_27 (E : ms_En) (o : Nat) (a1 : Int32) (a2 : Int32) (post : Int32 → ms_St → Prop)  (u : ms_St) (z0 : Int32) (z1 : Nat) : Prop := wp_X11_fails E u z1 z0 1 (fun r28 u28 => (r28 = 0 → wp_X11_noHouse E u28 o a2 (fun r36 u36 => (r36 = 0 → wp_X11_findWays E u36 o (fun u45 => wp_X11_fromCrossing E u45 o a1 a2 (fun r51 u51 => wp_X11_told E u51 r51 (fun r54 u54 => post r54 u54)))) ∧ (¬ r36 = 0 → wp_X11_distanceFrom_42 E o a1 a2 post u36))) ∧ (¬ r28 = 0 → wp_X11_distanceFrom_42 E o a1 a2 post u28))
set_option maxHeartbeats 4000000 in
set_option maxRecDepth 100000 in
theorem c_X11_distanceFrom_27 {p : Program} {l : Launch} {e : Env} {s : State} {m : MethodId} {args : Array Value} {below : List Frame} {meth : Method} {c : Code} {G : va_G} {cy : Nat → ClassId} {A : Nat → Prop} {L : Nat → Nat} {E : ms_En} (C : ms_Cx p m c cX11_distanceFrom 3 s args (Cond.code ⟨"CensusWalkModel", "distanceFrom", "(II)I"⟩ prog_13_method_56_code 3 (some .int)) "CensusWalkModel" G cy A) (hr : meth.sig.returnType = (some .int)) (hlocks : meth.locks = false) (hE : ms_WT E) {o : Nat} {a1 : Int32} {a2 : Int32} {post : Int32 → ms_St → Prop}  (ho : ms_is E o 11)  (u : ms_St) (z0 : Int32) (z1 : Nat) (k_z1 : ms_is E z1 11) (h : wp_X11_distanceFrom_27 E o a1 a2 post u z0 z1) : ms_At p l e ({ frames := 4, cells := 0, slots := 0, locals := 84 } : Room) s m args below meth c 3 G cy A L 0 0 (ms_QI below args s G cy L E A post 0 0) E u 27 [(0, .ref (L o)), (1, .int a1), (2, .int a2)] [.int z0, .ref (L z1)] := by
  unfold wp_X11_distanceFrom_27 at h
  refine a_iconst (v := 1) C dX11_distanceFrom_27 (by decide) rfl ?_
  refine a_callVI C (c_X11_fails l G cy L E hE u z1 z0 1 k_z1 _ h) k_z1 rfl (by decide) kw_6_101 kw_6_103 kp_43 kw_1_12 kw_6_104 rfl rfl pd_X11_fails ⟨(Nat.le_of_ble_eq_true rfl), (Nat.le_of_ble_eq_true rfl)⟩ dX11_distanceFrom_28 rfl (Nat.le_of_ble_eq_true rfl) ⟨(Nat.le_of_ble_eq_true rfl), (Nat.le_of_ble_eq_true rfl)⟩ rfl (fun r28 u28 h => ?_)
  refine a_if_ne (tgt := 42) C dX11_distanceFrom_31 (by decide) rfl (fun hc => ?_) (fun hc => ?_)
  · replace h := h.2 hc
    refine a_sub (lv' := []) [] rfl ?_
    exact c_X11_distanceFrom_42 C hr hlocks hE ho  u28  h
  · replace h := h.1 hc
    refine a_aload_n C dX11_distanceFrom_34 rfl 0 rfl rfl ?_
    refine a_iload_n C dX11_distanceFrom_35 rfl 2 rfl rfl ?_
    refine a_callVI C (c_X11_noHouse l G cy L E hE u28 o a2 ho _ h) ho rfl (by decide) kw_6_228 kw_6_230 kp_61 kw_1_12 kw_6_231 rfl rfl pd_X11_noHouse ⟨(Nat.le_of_ble_eq_true rfl), (Nat.le_of_ble_eq_true rfl)⟩ dX11_distanceFrom_36 rfl (Nat.le_of_ble_eq_true rfl) ⟨(Nat.le_of_ble_eq_true rfl), (Nat.le_of_ble_eq_true rfl)⟩ rfl (fun r36 u36 h => ?_)
    refine a_if_eq (tgt := 44) C dX11_distanceFrom_39 (by decide) rfl (fun hc => ?_) (fun hc => ?_)
    · replace h := h.1 hc
      refine a_aload_n C dX11_distanceFrom_44 rfl 0 rfl rfl ?_
      refine a_callVV C (c_X11_findWays l G cy L E hE u36 o ho _ h) ho rfl (by decide) kw_6_232 kw_6_234 kp_62 kw_1_12 kw_6_235 rfl rfl pd_X11_findWays ⟨(Nat.le_of_ble_eq_true rfl), (Nat.le_of_ble_eq_true rfl)⟩ dX11_distanceFrom_45 rfl (Nat.le_of_ble_eq_true rfl) ⟨(Nat.le_of_ble_eq_true rfl), (Nat.le_of_ble_eq_true rfl)⟩ rfl (fun u45 h => ?_)
      refine a_aload_n C dX11_distanceFrom_48 rfl 0 rfl rfl ?_
      refine a_iload_n C dX11_distanceFrom_49 rfl 1 rfl rfl ?_
      refine a_iload_n C dX11_distanceFrom_50 rfl 2 rfl rfl ?_
      refine a_callVI C (c_X11_fromCrossing l G cy L E hE u45 o a1 a2 ho _ h) ho rfl (by decide) kw_7_12 kw_7_14 kp_67 kw_1_12 kw_7_15 rfl rfl pd_X11_fromCrossing ⟨(Nat.le_of_ble_eq_true rfl), (Nat.le_of_ble_eq_true rfl)⟩ dX11_distanceFrom_51 rfl (Nat.le_of_ble_eq_true rfl) ⟨(Nat.le_of_ble_eq_true rfl), (Nat.le_of_ble_eq_true rfl)⟩ rfl (fun r51 u51 h => ?_)
      refine a_callSI C (c_X11_told l G cy L E hE u51 r51  _ h) kw_7_20 kw_7_21 kw_1_12 kw_7_22 rfl rfl pd_X11_told ⟨(Nat.le_of_ble_eq_true rfl), (Nat.le_of_ble_eq_true rfl)⟩ dX11_distanceFrom_54 rfl (Nat.le_of_ble_eq_true rfl) ⟨(Nat.le_of_ble_eq_true rfl), (Nat.le_of_ble_eq_true rfl)⟩ rfl (fun r54 u54 h => ?_)
      exact a_iret C dX11_distanceFrom_57 hr hlocks (Nat.le_of_ble_eq_true rfl) (Nat.le_of_ble_eq_true rfl) h
    · replace h := h.2 hc
      refine a_sub (lv' := []) [] rfl ?_
      exact c_X11_distanceFrom_42 C hr hlocks hE ho  u36  h
def wp_X11_distanceFrom (E : ms_En) (u : ms_St) (o : Nat) (a1 : Int32) (a2 : Int32) (post : Int32 → ms_St → Prop) : Prop := vp_in 0 1613 ∧ (wp_X11_in E (ms_sI u o 0 0) a1 0 ((ms_I (ms_sI u o 0 0) (ms_at E o 8) (Int32.toNatClampNeg 0)) - 1) (fun r16 u16 => (r16 = 0 → wp_X11_distanceFrom_27 E o a1 a2 post u16 1 o) ∧ (¬ r16 = 0 → wp_X11_distanceFrom_27 E o a1 a2 post u16 0 o)))
set_option maxHeartbeats 4000000 in
set_option maxRecDepth 100000 in
theorem c_X11_distanceFrom (l : Launch) (G : va_G) (cy : Nat → ClassId) (L : Nat → Nat) (E : ms_En) (hE : ms_WT E) (u : ms_St) (o : Nat) (a1 : Int32) (a2 : Int32) (ho : ms_is E o 11) (post : Int32 → ms_St → Prop) (h : wp_X11_distanceFrom E u o a1 a2 post) : ms_MetI l ⟨"CensusWalkModel", "distanceFrom", "(II)I"⟩ (Cond.code ⟨"CensusWalkModel", "distanceFrom", "(II)I"⟩ prog_13_method_56_code 3 (some .int) :: lw_g) ({ frames := 4, cells := 0, slots := 0, locals := 84 } : Room) G cy L E [.ref (L o), .int a1, .int a2] u post 0 0 := by
  refine ms_enterI (lv := [(0, .ref (L o)), (1, .int a1), (2, .int a2)]) (by decide) (Nat.le_of_ble_eq_true rfl) rfl ?_
  intro p e s m args below meth c A C hr hlocks
  unfold wp_X11_distanceFrom at h
  refine a_aload_n C dX11_distanceFrom_0 rfl 0 rfl rfl ?_
  refine a_iconst (v := 0) C dX11_distanceFrom_1 (by decide) rfl ?_
  refine s_11_0 C dX11_distanceFrom_2 ho kw_5_222 rfl ?_
  refine a_aload_n C dX11_distanceFrom_5 rfl 0 rfl rfl ?_
  refine a_iload_n C dX11_distanceFrom_6 rfl 1 rfl rfl ?_
  refine a_iconst (v := 0) C dX11_distanceFrom_7 (by decide) rfl ?_
  refine a_aload_n C dX11_distanceFrom_8 rfl 0 rfl rfl ?_
  refine g_11_8 C hE dX11_distanceFrom_9 ho kw_5_230 rfl ?_
  have k9 : ms_is E (ms_at E o 8) 13 := ms_wt hE ho rfl (by decide)
  have n9 : ms_N E (ms_at E o 8) = 1613 := ms_wl hE ho (by decide) (by decide) rfl
  refine a_iconst (v := 0) C dX11_distanceFrom_12 (by decide) rfl ?_
  obtain ⟨q13, h⟩ := h
  refine a_iald C dX11_distanceFrom_13 k9 n9 q13 rfl ?_
  refine a_iconst (v := 1) C dX11_distanceFrom_14 (by decide) rfl ?_
  refine a_isub C dX11_distanceFrom_15 rfl ?_
  refine a_callSI C (c_X11_in l G cy L E hE (ms_sI u o 0 0) a1 0 ((ms_I (ms_sI u o 0 0) (ms_at E o 8) (Int32.toNatClampNeg 0)) - 1)  _ h) kw_6_98 kw_6_99 kw_1_12 kw_6_100 rfl rfl pd_X11_in ⟨(Nat.le_of_ble_eq_true rfl), (Nat.le_of_ble_eq_true rfl)⟩ dX11_distanceFrom_16 rfl (Nat.le_of_ble_eq_true rfl) ⟨(Nat.le_of_ble_eq_true rfl), (Nat.le_of_ble_eq_true rfl)⟩ rfl (fun r16 u16 h => ?_)
  refine a_if_ne (tgt := 26) C dX11_distanceFrom_19 (by decide) rfl (fun hc => ?_) (fun hc => ?_)
  · replace h := h.2 hc
    refine a_iconst (v := 0) C dX11_distanceFrom_26 (by decide) rfl ?_
    exact c_X11_distanceFrom_27 C hr hlocks hE ho  u16 0 o ho h
  · replace h := h.1 hc
    refine a_iconst (v := 1) C dX11_distanceFrom_22 (by decide) rfl ?_
    refine a_goto (tgt := 27) C dX11_distanceFrom_23 (by decide) ?_
    exact c_X11_distanceFrom_27 C hr hlocks hE ho  u16 1 o ho h

/-! CensusWalkModel.streetOf(I)I -/
theorem pd_X11_streetOf : (⟨"CensusWalkModel", "streetOf", "(I)I"⟩ : MethodName).cls = "CensusWalkModel" ∧ (⟨"CensusWalkModel", "streetOf", "(I)I"⟩ : MethodName).cls ≠ "java/lang/invoke/MethodHandle" ∧ (⟨"CensusWalkModel", "streetOf", "(I)I"⟩ : MethodName).cls ≠ "java/lang/invoke/VarHandle" ∧ (parseMethodDescriptor (⟨"CensusWalkModel", "streetOf", "(I)I"⟩ : MethodName).desc).map (fun d => d.parameters.length) = some 1 := by decide +kernel
def wp_X11_streetOf_26 (E : ms_En) (o : Nat) (a1 : Int32) (post : Int32 → ms_St → Prop)  (u : ms_St) (z0 : Int32) : Prop := post z0 u
set_option maxHeartbeats 4000000 in
set_option maxRecDepth 100000 in
theorem c_X11_streetOf_26 {p : Program} {l : Launch} {e : Env} {s : State} {m : MethodId} {args : Array Value} {below : List Frame} {meth : Method} {c : Code} {G : va_G} {cy : Nat → ClassId} {A : Nat → Prop} {L : Nat → Nat} {E : ms_En} (C : ms_Cx p m c cX11_streetOf 2 s args (Cond.code ⟨"CensusWalkModel", "streetOf", "(I)I"⟩ prog_13_method_57_code 2 (some .int)) "CensusWalkModel" G cy A) (hr : meth.sig.returnType = (some .int)) (hlocks : meth.locks = false) (hE : ms_WT E) {o : Nat} {a1 : Int32} {post : Int32 → ms_St → Prop}  (ho : ms_is E o 11)  (u : ms_St) (z0 : Int32)  (h : wp_X11_streetOf_26 E o a1 post u z0) : ms_At p l e ({ frames := 2, cells := 0, slots := 0, locals := 43 } : Room) s m args below meth c 2 G cy A L 0 0 (ms_QI below args s G cy L E A post 0 0) E u 26 [] [.int z0] := by
  unfold wp_X11_streetOf_26 at h
  exact a_iret C dX11_streetOf_26 hr hlocks (Nat.le_of_ble_eq_true rfl) (Nat.le_of_ble_eq_true rfl) h
def wp_X11_streetOf (E : ms_En) (u : ms_St) (o : Nat) (a1 : Int32) (post : Int32 → ms_St → Prop) : Prop := wp_X11_noHouse E (ms_sI u o 0 0) o a1 (fun r7 u7 => (r7 = 0 → wp_X11_house E u7 a1 (fun r22 u22 => vp_in r22 1613 ∧ (wp_X11_streetOf_26 E o a1 post u22 (ms_I u22 (ms_at E o 8) (Int32.toNatClampNeg r22))))) ∧ (¬ r7 = 0 → wp_X11_streetOf_26 E o a1 post u7 0))
set_option maxHeartbeats 4000000 in
set_option maxRecDepth 100000 in
theorem c_X11_streetOf (l : Launch) (G : va_G) (cy : Nat → ClassId) (L : Nat → Nat) (E : ms_En) (hE : ms_WT E) (u : ms_St) (o : Nat) (a1 : Int32) (ho : ms_is E o 11) (post : Int32 → ms_St → Prop) (h : wp_X11_streetOf E u o a1 post) : ms_MetI l ⟨"CensusWalkModel", "streetOf", "(I)I"⟩ (Cond.code ⟨"CensusWalkModel", "streetOf", "(I)I"⟩ prog_13_method_57_code 2 (some .int) :: lw_g) ({ frames := 2, cells := 0, slots := 0, locals := 43 } : Room) G cy L E [.ref (L o), .int a1] u post 0 0 := by
  refine ms_enterI (lv := [(0, .ref (L o)), (1, .int a1)]) (by decide) (Nat.le_of_ble_eq_true rfl) rfl ?_
  intro p e s m args below meth c A C hr hlocks
  unfold wp_X11_streetOf at h
  refine a_aload_n C dX11_streetOf_0 rfl 0 rfl rfl ?_
  refine a_iconst (v := 0) C dX11_streetOf_1 (by decide) rfl ?_
  refine s_11_0 C dX11_streetOf_2 ho kw_5_222 rfl ?_
  refine a_aload_n C dX11_streetOf_5 rfl 0 rfl rfl ?_
  refine a_iload_n C dX11_streetOf_6 rfl 1 rfl rfl ?_
  refine a_callVI C (c_X11_noHouse l G cy L E hE (ms_sI u o 0 0) o a1 ho _ h) ho rfl (by decide) kw_6_228 kw_6_230 kp_61 kw_1_12 kw_6_231 rfl rfl pd_X11_noHouse ⟨(Nat.le_of_ble_eq_true rfl), (Nat.le_of_ble_eq_true rfl)⟩ dX11_streetOf_7 rfl (Nat.le_of_ble_eq_true rfl) ⟨(Nat.le_of_ble_eq_true rfl), (Nat.le_of_ble_eq_true rfl)⟩ rfl (fun r7 u7 h => ?_)
  refine a_if_eq (tgt := 17) C dX11_streetOf_10 (by decide) rfl (fun hc => ?_) (fun hc => ?_)
  · replace h := h.1 hc
    refine a_aload_n C dX11_streetOf_17 rfl 0 rfl rfl ?_
    refine g_11_8 C hE dX11_streetOf_18 ho kw_5_230 rfl ?_
    have k18 : ms_is E (ms_at E o 8) 13 := ms_wt hE ho rfl (by decide)
    have n18 : ms_N E (ms_at E o 8) = 1613 := ms_wl hE ho (by decide) (by decide) rfl
    refine a_iload_n C dX11_streetOf_21 rfl 1 rfl rfl ?_
    refine a_callSI C (c_X11_house l G cy L E hE u7 a1  _ h) kw_6_160 kw_6_161 kw_1_12 kw_6_162 rfl rfl pd_X11_house ⟨(Nat.le_of_ble_eq_true rfl), (Nat.le_of_ble_eq_true rfl)⟩ dX11_streetOf_22 rfl (Nat.le_of_ble_eq_true rfl) ⟨(Nat.le_of_ble_eq_true rfl), (Nat.le_of_ble_eq_true rfl)⟩ rfl (fun r22 u22 h => ?_)
    obtain ⟨q25, h⟩ := h
    refine a_iald C dX11_streetOf_25 k18 n18 q25 rfl ?_
    refine a_sub (lv' := []) [] rfl ?_
    exact c_X11_streetOf_26 C hr hlocks hE ho  u22 (ms_I u22 (ms_at E o 8) (Int32.toNatClampNeg r22))  h
  · replace h := h.2 hc
    refine a_iconst (v := 0) C dX11_streetOf_13 (by decide) rfl ?_
    refine a_goto (tgt := 26) C dX11_streetOf_14 (by decide) ?_
    refine a_sub (lv' := []) [] rfl ?_
    exact c_X11_streetOf_26 C hr hlocks hE ho  u7 0  h

/-! CensusWalkModel.isOpen(I)Z -/
theorem pd_X11_isOpen : (⟨"CensusWalkModel", "isOpen", "(I)Z"⟩ : MethodName).cls = "CensusWalkModel" ∧ (⟨"CensusWalkModel", "isOpen", "(I)Z"⟩ : MethodName).cls ≠ "java/lang/invoke/MethodHandle" ∧ (⟨"CensusWalkModel", "isOpen", "(I)Z"⟩ : MethodName).cls ≠ "java/lang/invoke/VarHandle" ∧ (parseMethodDescriptor (⟨"CensusWalkModel", "isOpen", "(I)Z"⟩ : MethodName).desc).map (fun d => d.parameters.length) = some 1 := by decide +kernel
def wp_X11_isOpen_32 (E : ms_En) (o : Nat) (a1 : Int32) (post : Int32 → ms_St → Prop)  (u : ms_St) (z0 : Int32) : Prop := (z0 = 0 ∨ z0 = 1) ∧ (post z0 u)
set_option maxHeartbeats 4000000 in
set_option maxRecDepth 100000 in
theorem c_X11_isOpen_32 {p : Program} {l : Launch} {e : Env} {s : State} {m : MethodId} {args : Array Value} {below : List Frame} {meth : Method} {c : Code} {G : va_G} {cy : Nat → ClassId} {A : Nat → Prop} {L : Nat → Nat} {E : ms_En} (C : ms_Cx p m c cX11_isOpen 2 s args (Cond.code ⟨"CensusWalkModel", "isOpen", "(I)Z"⟩ prog_13_method_58_code 2 (some .boolean)) "CensusWalkModel" G cy A) (hr : meth.sig.returnType = (some .boolean)) (hlocks : meth.locks = false) (hE : ms_WT E) {o : Nat} {a1 : Int32} {post : Int32 → ms_St → Prop}  (ho : ms_is E o 11)  (u : ms_St) (z0 : Int32)  (h : wp_X11_isOpen_32 E o a1 post u z0) : ms_At p l e ({ frames := 2, cells := 0, slots := 0, locals := 43 } : Room) s m args below meth c 2 G cy A L 0 0 (ms_QI below args s G cy L E A post 0 0) E u 32 [] [.int z0] := by
  unfold wp_X11_isOpen_32 at h
  obtain ⟨q32, h⟩ := h
  exact a_zret C dX11_isOpen_32 hr hlocks (Nat.le_of_ble_eq_true rfl) (Nat.le_of_ble_eq_true rfl) (ms_nz q32) h
def wp_X11_isOpen_31 (E : ms_En) (o : Nat) (a1 : Int32) (post : Int32 → ms_St → Prop)  (u : ms_St)  : Prop := wp_X11_isOpen_32 E o a1 post u 0
set_option maxHeartbeats 4000000 in
set_option maxRecDepth 100000 in
theorem c_X11_isOpen_31 {p : Program} {l : Launch} {e : Env} {s : State} {m : MethodId} {args : Array Value} {below : List Frame} {meth : Method} {c : Code} {G : va_G} {cy : Nat → ClassId} {A : Nat → Prop} {L : Nat → Nat} {E : ms_En} (C : ms_Cx p m c cX11_isOpen 2 s args (Cond.code ⟨"CensusWalkModel", "isOpen", "(I)Z"⟩ prog_13_method_58_code 2 (some .boolean)) "CensusWalkModel" G cy A) (hr : meth.sig.returnType = (some .boolean)) (hlocks : meth.locks = false) (hE : ms_WT E) {o : Nat} {a1 : Int32} {post : Int32 → ms_St → Prop}  (ho : ms_is E o 11)  (u : ms_St)   (h : wp_X11_isOpen_31 E o a1 post u ) : ms_At p l e ({ frames := 2, cells := 0, slots := 0, locals := 43 } : Room) s m args below meth c 2 G cy A L 0 0 (ms_QI below args s G cy L E A post 0 0) E u 31 [] [] := by
  unfold wp_X11_isOpen_31 at h
  refine a_iconst (v := 0) C dX11_isOpen_31 (by decide) rfl ?_
  exact c_X11_isOpen_32 C hr hlocks hE ho  u 0  h
def wp_X11_isOpen (E : ms_En) (u : ms_St) (o : Nat) (a1 : Int32) (post : Int32 → ms_St → Prop) : Prop := wp_X11_noStreet E (ms_sI u o 0 0) o a1 (fun r7 u7 => (r7 = 0 → wp_X11_street E u7 a1 (fun r18 u18 => vp_in (r18 + 3) 1613 ∧ (((ms_I u18 (ms_at E o 8) (Int32.toNatClampNeg (r18 + 3))) = 0 → wp_X11_isOpen_32 E o a1 post u18 1) ∧ (¬ (ms_I u18 (ms_at E o 8) (Int32.toNatClampNeg (r18 + 3))) = 0 → wp_X11_isOpen_31 E o a1 post u18)))) ∧ (¬ r7 = 0 → wp_X11_isOpen_31 E o a1 post u7))
set_option maxHeartbeats 4000000 in
set_option maxRecDepth 100000 in
theorem c_X11_isOpen (l : Launch) (G : va_G) (cy : Nat → ClassId) (L : Nat → Nat) (E : ms_En) (hE : ms_WT E) (u : ms_St) (o : Nat) (a1 : Int32) (ho : ms_is E o 11) (post : Int32 → ms_St → Prop) (h : wp_X11_isOpen E u o a1 post) : ms_MetI l ⟨"CensusWalkModel", "isOpen", "(I)Z"⟩ (Cond.code ⟨"CensusWalkModel", "isOpen", "(I)Z"⟩ prog_13_method_58_code 2 (some .boolean) :: lw_g) ({ frames := 2, cells := 0, slots := 0, locals := 43 } : Room) G cy L E [.ref (L o), .int a1] u post 0 0 := by
  refine ms_enterI (lv := [(0, .ref (L o)), (1, .int a1)]) (by decide) (Nat.le_of_ble_eq_true rfl) rfl ?_
  intro p e s m args below meth c A C hr hlocks
  unfold wp_X11_isOpen at h
  refine a_aload_n C dX11_isOpen_0 rfl 0 rfl rfl ?_
  refine a_iconst (v := 0) C dX11_isOpen_1 (by decide) rfl ?_
  refine s_11_0 C dX11_isOpen_2 ho kw_5_222 rfl ?_
  refine a_aload_n C dX11_isOpen_5 rfl 0 rfl rfl ?_
  refine a_iload_n C dX11_isOpen_6 rfl 1 rfl rfl ?_
  refine a_callVI C (c_X11_noStreet l G cy L E hE (ms_sI u o 0 0) o a1 ho _ h) ho rfl (by decide) kw_7_35 kw_7_37 kp_69 kw_1_12 kw_7_38 rfl rfl pd_X11_noStreet ⟨(Nat.le_of_ble_eq_true rfl), (Nat.le_of_ble_eq_true rfl)⟩ dX11_isOpen_7 rfl (Nat.le_of_ble_eq_true rfl) ⟨(Nat.le_of_ble_eq_true rfl), (Nat.le_of_ble_eq_true rfl)⟩ rfl (fun r7 u7 h => ?_)
  refine a_if_ne (tgt := 31) C dX11_isOpen_10 (by decide) rfl (fun hc => ?_) (fun hc => ?_)
  · replace h := h.2 hc
    refine a_sub (lv' := []) [] rfl ?_
    exact c_X11_isOpen_31 C hr hlocks hE ho  u7  h
  · replace h := h.1 hc
    refine a_aload_n C dX11_isOpen_13 rfl 0 rfl rfl ?_
    refine g_11_8 C hE dX11_isOpen_14 ho kw_5_230 rfl ?_
    have k14 : ms_is E (ms_at E o 8) 13 := ms_wt hE ho rfl (by decide)
    have n14 : ms_N E (ms_at E o 8) = 1613 := ms_wl hE ho (by decide) (by decide) rfl
    refine a_iload_n C dX11_isOpen_17 rfl 1 rfl rfl ?_
    refine a_callSI C (c_X11_street l G cy L E hE u7 a1  _ h) kw_6_152 kw_6_153 kw_1_12 kw_6_154 rfl rfl pd_X11_street ⟨(Nat.le_of_ble_eq_true rfl), (Nat.le_of_ble_eq_true rfl)⟩ dX11_isOpen_18 rfl (Nat.le_of_ble_eq_true rfl) ⟨(Nat.le_of_ble_eq_true rfl), (Nat.le_of_ble_eq_true rfl)⟩ rfl (fun r18 u18 h => ?_)
    refine a_iconst (v := 3) C dX11_isOpen_21 (by decide) rfl ?_
    refine a_iadd C dX11_isOpen_22 rfl ?_
    obtain ⟨q23, h⟩ := h
    refine a_iald C dX11_isOpen_23 k14 n14 q23 rfl ?_
    refine a_if_ne (tgt := 31) C dX11_isOpen_24 (by decide) rfl (fun hc => ?_) (fun hc => ?_)
    · replace h := h.2 hc
      refine a_sub (lv' := []) [] rfl ?_
      exact c_X11_isOpen_31 C hr hlocks hE ho  u18  h
    · replace h := h.1 hc
      refine a_iconst (v := 1) C dX11_isOpen_27 (by decide) rfl ?_
      refine a_goto (tgt := 32) C dX11_isOpen_28 (by decide) ?_
      refine a_sub (lv' := []) [] rfl ?_
      exact c_X11_isOpen_32 C hr hlocks hE ho  u18 1  h

/-! CensusWalkModel.hasDog(I)Z -/
theorem pd_X11_hasDog : (⟨"CensusWalkModel", "hasDog", "(I)Z"⟩ : MethodName).cls = "CensusWalkModel" ∧ (⟨"CensusWalkModel", "hasDog", "(I)Z"⟩ : MethodName).cls ≠ "java/lang/invoke/MethodHandle" ∧ (⟨"CensusWalkModel", "hasDog", "(I)Z"⟩ : MethodName).cls ≠ "java/lang/invoke/VarHandle" ∧ (parseMethodDescriptor (⟨"CensusWalkModel", "hasDog", "(I)Z"⟩ : MethodName).desc).map (fun d => d.parameters.length) = some 1 := by decide +kernel
def wp_X11_hasDog_34 (E : ms_En) (o : Nat) (a1 : Int32) (post : Int32 → ms_St → Prop)  (u : ms_St) (z0 : Int32) : Prop := (z0 = 0 ∨ z0 = 1) ∧ (post z0 u)
set_option maxHeartbeats 4000000 in
set_option maxRecDepth 100000 in
theorem c_X11_hasDog_34 {p : Program} {l : Launch} {e : Env} {s : State} {m : MethodId} {args : Array Value} {below : List Frame} {meth : Method} {c : Code} {G : va_G} {cy : Nat → ClassId} {A : Nat → Prop} {L : Nat → Nat} {E : ms_En} (C : ms_Cx p m c cX11_hasDog 2 s args (Cond.code ⟨"CensusWalkModel", "hasDog", "(I)Z"⟩ prog_13_method_59_code 2 (some .boolean)) "CensusWalkModel" G cy A) (hr : meth.sig.returnType = (some .boolean)) (hlocks : meth.locks = false) (hE : ms_WT E) {o : Nat} {a1 : Int32} {post : Int32 → ms_St → Prop}  (ho : ms_is E o 11)  (u : ms_St) (z0 : Int32)  (h : wp_X11_hasDog_34 E o a1 post u z0) : ms_At p l e ({ frames := 2, cells := 0, slots := 0, locals := 43 } : Room) s m args below meth c 2 G cy A L 0 0 (ms_QI below args s G cy L E A post 0 0) E u 34 [] [.int z0] := by
  unfold wp_X11_hasDog_34 at h
  obtain ⟨q34, h⟩ := h
  exact a_zret C dX11_hasDog_34 hr hlocks (Nat.le_of_ble_eq_true rfl) (Nat.le_of_ble_eq_true rfl) (ms_nz q34) h
def wp_X11_hasDog_33 (E : ms_En) (o : Nat) (a1 : Int32) (post : Int32 → ms_St → Prop)  (u : ms_St)  : Prop := wp_X11_hasDog_34 E o a1 post u 0
set_option maxHeartbeats 4000000 in
set_option maxRecDepth 100000 in
theorem c_X11_hasDog_33 {p : Program} {l : Launch} {e : Env} {s : State} {m : MethodId} {args : Array Value} {below : List Frame} {meth : Method} {c : Code} {G : va_G} {cy : Nat → ClassId} {A : Nat → Prop} {L : Nat → Nat} {E : ms_En} (C : ms_Cx p m c cX11_hasDog 2 s args (Cond.code ⟨"CensusWalkModel", "hasDog", "(I)Z"⟩ prog_13_method_59_code 2 (some .boolean)) "CensusWalkModel" G cy A) (hr : meth.sig.returnType = (some .boolean)) (hlocks : meth.locks = false) (hE : ms_WT E) {o : Nat} {a1 : Int32} {post : Int32 → ms_St → Prop}  (ho : ms_is E o 11)  (u : ms_St)   (h : wp_X11_hasDog_33 E o a1 post u ) : ms_At p l e ({ frames := 2, cells := 0, slots := 0, locals := 43 } : Room) s m args below meth c 2 G cy A L 0 0 (ms_QI below args s G cy L E A post 0 0) E u 33 [] [] := by
  unfold wp_X11_hasDog_33 at h
  refine a_iconst (v := 0) C dX11_hasDog_33 (by decide) rfl ?_
  exact c_X11_hasDog_34 C hr hlocks hE ho  u 0  h
def wp_X11_hasDog (E : ms_En) (u : ms_St) (o : Nat) (a1 : Int32) (post : Int32 → ms_St → Prop) : Prop := wp_X11_noHouse E (ms_sI u o 0 0) o a1 (fun r7 u7 => (r7 = 0 → wp_X11_house E u7 a1 (fun r18 u18 => vp_in (r18 + 6) 1613 ∧ (((ms_I u18 (ms_at E o 8) (Int32.toNatClampNeg (r18 + 6))) = 1 → wp_X11_hasDog_34 E o a1 post u18 1) ∧ (¬ (ms_I u18 (ms_at E o 8) (Int32.toNatClampNeg (r18 + 6))) = 1 → wp_X11_hasDog_33 E o a1 post u18)))) ∧ (¬ r7 = 0 → wp_X11_hasDog_33 E o a1 post u7))
set_option maxHeartbeats 4000000 in
set_option maxRecDepth 100000 in
theorem c_X11_hasDog (l : Launch) (G : va_G) (cy : Nat → ClassId) (L : Nat → Nat) (E : ms_En) (hE : ms_WT E) (u : ms_St) (o : Nat) (a1 : Int32) (ho : ms_is E o 11) (post : Int32 → ms_St → Prop) (h : wp_X11_hasDog E u o a1 post) : ms_MetI l ⟨"CensusWalkModel", "hasDog", "(I)Z"⟩ (Cond.code ⟨"CensusWalkModel", "hasDog", "(I)Z"⟩ prog_13_method_59_code 2 (some .boolean) :: lw_g) ({ frames := 2, cells := 0, slots := 0, locals := 43 } : Room) G cy L E [.ref (L o), .int a1] u post 0 0 := by
  refine ms_enterI (lv := [(0, .ref (L o)), (1, .int a1)]) (by decide) (Nat.le_of_ble_eq_true rfl) rfl ?_
  intro p e s m args below meth c A C hr hlocks
  unfold wp_X11_hasDog at h
  refine a_aload_n C dX11_hasDog_0 rfl 0 rfl rfl ?_
  refine a_iconst (v := 0) C dX11_hasDog_1 (by decide) rfl ?_
  refine s_11_0 C dX11_hasDog_2 ho kw_5_222 rfl ?_
  refine a_aload_n C dX11_hasDog_5 rfl 0 rfl rfl ?_
  refine a_iload_n C dX11_hasDog_6 rfl 1 rfl rfl ?_
  refine a_callVI C (c_X11_noHouse l G cy L E hE (ms_sI u o 0 0) o a1 ho _ h) ho rfl (by decide) kw_6_228 kw_6_230 kp_61 kw_1_12 kw_6_231 rfl rfl pd_X11_noHouse ⟨(Nat.le_of_ble_eq_true rfl), (Nat.le_of_ble_eq_true rfl)⟩ dX11_hasDog_7 rfl (Nat.le_of_ble_eq_true rfl) ⟨(Nat.le_of_ble_eq_true rfl), (Nat.le_of_ble_eq_true rfl)⟩ rfl (fun r7 u7 h => ?_)
  refine a_if_ne (tgt := 33) C dX11_hasDog_10 (by decide) rfl (fun hc => ?_) (fun hc => ?_)
  · replace h := h.2 hc
    refine a_sub (lv' := []) [] rfl ?_
    exact c_X11_hasDog_33 C hr hlocks hE ho  u7  h
  · replace h := h.1 hc
    refine a_aload_n C dX11_hasDog_13 rfl 0 rfl rfl ?_
    refine g_11_8 C hE dX11_hasDog_14 ho kw_5_230 rfl ?_
    have k14 : ms_is E (ms_at E o 8) 13 := ms_wt hE ho rfl (by decide)
    have n14 : ms_N E (ms_at E o 8) = 1613 := ms_wl hE ho (by decide) (by decide) rfl
    refine a_iload_n C dX11_hasDog_17 rfl 1 rfl rfl ?_
    refine a_callSI C (c_X11_house l G cy L E hE u7 a1  _ h) kw_6_160 kw_6_161 kw_1_12 kw_6_162 rfl rfl pd_X11_house ⟨(Nat.le_of_ble_eq_true rfl), (Nat.le_of_ble_eq_true rfl)⟩ dX11_hasDog_18 rfl (Nat.le_of_ble_eq_true rfl) ⟨(Nat.le_of_ble_eq_true rfl), (Nat.le_of_ble_eq_true rfl)⟩ rfl (fun r18 u18 h => ?_)
    refine a_bipush (v := 6) C dX11_hasDog_21 (by decide) rfl ?_
    refine a_iadd C dX11_hasDog_23 rfl ?_
    obtain ⟨q24, h⟩ := h
    refine a_iald C dX11_hasDog_24 k14 n14 q24 rfl ?_
    refine a_iconst (v := 1) C dX11_hasDog_25 (by decide) rfl ?_
    refine a_icmp_ne (tgt := 33) C dX11_hasDog_26 (by decide) rfl (fun hc => ?_) (fun hc => ?_)
    · replace h := h.2 hc
      refine a_sub (lv' := []) [] rfl ?_
      exact c_X11_hasDog_33 C hr hlocks hE ho  u18  h
    · replace h := h.1 hc
      refine a_iconst (v := 1) C dX11_hasDog_29 (by decide) rfl ?_
      refine a_goto (tgt := 34) C dX11_hasDog_30 (by decide) ?_
      refine a_sub (lv' := []) [] rfl ?_
      exact c_X11_hasDog_34 C hr hlocks hE ho  u18 1  h

/-! CensusWalkModel.isHome(II)Z -/
theorem pd_X11_isHome : (⟨"CensusWalkModel", "isHome", "(II)Z"⟩ : MethodName).cls = "CensusWalkModel" ∧ (⟨"CensusWalkModel", "isHome", "(II)Z"⟩ : MethodName).cls ≠ "java/lang/invoke/MethodHandle" ∧ (⟨"CensusWalkModel", "isHome", "(II)Z"⟩ : MethodName).cls ≠ "java/lang/invoke/VarHandle" ∧ (parseMethodDescriptor (⟨"CensusWalkModel", "isHome", "(II)Z"⟩ : MethodName).desc).map (fun d => d.parameters.length) = some 2 := by decide +kernel
def wp_X11_isHome_51 (E : ms_En) (o : Nat) (a1 : Int32) (a2 : Int32) (post : Int32 → ms_St → Prop)  (u : ms_St) (z0 : Int32) : Prop := (z0 = 0 ∨ z0 = 1) ∧ (post z0 u)
set_option maxHeartbeats 4000000 in
set_option maxRecDepth 100000 in
theorem c_X11_isHome_51 {p : Program} {l : Launch} {e : Env} {s : State} {m : MethodId} {args : Array Value} {below : List Frame} {meth : Method} {c : Code} {G : va_G} {cy : Nat → ClassId} {A : Nat → Prop} {L : Nat → Nat} {E : ms_En} (C : ms_Cx p m c cX11_isHome 3 s args (Cond.code ⟨"CensusWalkModel", "isHome", "(II)Z"⟩ prog_13_method_60_code 3 (some .boolean)) "CensusWalkModel" G cy A) (hr : meth.sig.returnType = (some .boolean)) (hlocks : meth.locks = false) (hE : ms_WT E) {o : Nat} {a1 : Int32} {a2 : Int32} {post : Int32 → ms_St → Prop}  (ho : ms_is E o 11)  (u : ms_St) (z0 : Int32)  (h : wp_X11_isHome_51 E o a1 a2 post u z0) : ms_At p l e ({ frames := 2, cells := 0, slots := 0, locals := 43 } : Room) s m args below meth c 3 G cy A L 0 0 (ms_QI below args s G cy L E A post 0 0) E u 51 [] [.int z0] := by
  unfold wp_X11_isHome_51 at h
  obtain ⟨q51, h⟩ := h
  exact a_zret C dX11_isHome_51 hr hlocks (Nat.le_of_ble_eq_true rfl) (Nat.le_of_ble_eq_true rfl) (ms_nz q51) h
def wp_X11_isHome_50 (E : ms_En) (o : Nat) (a1 : Int32) (a2 : Int32) (post : Int32 → ms_St → Prop)  (u : ms_St)  : Prop := wp_X11_isHome_51 E o a1 a2 post u 0
set_option maxHeartbeats 4000000 in
set_option maxRecDepth 100000 in
theorem c_X11_isHome_50 {p : Program} {l : Launch} {e : Env} {s : State} {m : MethodId} {args : Array Value} {below : List Frame} {meth : Method} {c : Code} {G : va_G} {cy : Nat → ClassId} {A : Nat → Prop} {L : Nat → Nat} {E : ms_En} (C : ms_Cx p m c cX11_isHome 3 s args (Cond.code ⟨"CensusWalkModel", "isHome", "(II)Z"⟩ prog_13_method_60_code 3 (some .boolean)) "CensusWalkModel" G cy A) (hr : meth.sig.returnType = (some .boolean)) (hlocks : meth.locks = false) (hE : ms_WT E) {o : Nat} {a1 : Int32} {a2 : Int32} {post : Int32 → ms_St → Prop}  (ho : ms_is E o 11)  (u : ms_St)   (h : wp_X11_isHome_50 E o a1 a2 post u ) : ms_At p l e ({ frames := 2, cells := 0, slots := 0, locals := 43 } : Room) s m args below meth c 3 G cy A L 0 0 (ms_QI below args s G cy L E A post 0 0) E u 50 [] [] := by
  unfold wp_X11_isHome_50 at h
  refine a_iconst (v := 0) C dX11_isHome_50 (by decide) rfl ?_
  exact c_X11_isHome_51 C hr hlocks hE ho  u 0  h
def wp_X11_isHome_30 (E : ms_En) (o : Nat) (a1 : Int32) (a2 : Int32) (post : Int32 → ms_St → Prop)  (u : ms_St) (z0 : Int32) (z1 : Nat) : Prop := wp_X11_fails E u z1 z0 2 (fun r31 u31 => (r31 = 0 → wp_X11_home E u31 o a1 a2 (fun r40 u40 => (r40 = 0 → wp_X11_isHome_50 E o a1 a2 post u40) ∧ (¬ r40 = 0 → wp_X11_isHome_51 E o a1 a2 post u40 1))) ∧ (¬ r31 = 0 → wp_X11_isHome_50 E o a1 a2 post u31))
set_option maxHeartbeats 4000000 in
set_option maxRecDepth 100000 in
theorem c_X11_isHome_30 {p : Program} {l : Launch} {e : Env} {s : State} {m : MethodId} {args : Array Value} {below : List Frame} {meth : Method} {c : Code} {G : va_G} {cy : Nat → ClassId} {A : Nat → Prop} {L : Nat → Nat} {E : ms_En} (C : ms_Cx p m c cX11_isHome 3 s args (Cond.code ⟨"CensusWalkModel", "isHome", "(II)Z"⟩ prog_13_method_60_code 3 (some .boolean)) "CensusWalkModel" G cy A) (hr : meth.sig.returnType = (some .boolean)) (hlocks : meth.locks = false) (hE : ms_WT E) {o : Nat} {a1 : Int32} {a2 : Int32} {post : Int32 → ms_St → Prop}  (ho : ms_is E o 11)  (u : ms_St) (z0 : Int32) (z1 : Nat) (k_z1 : ms_is E z1 11) (h : wp_X11_isHome_30 E o a1 a2 post u z0 z1) : ms_At p l e ({ frames := 2, cells := 0, slots := 0, locals := 43 } : Room) s m args below meth c 3 G cy A L 0 0 (ms_QI below args s G cy L E A post 0 0) E u 30 [(0, .ref (L o)), (1, .int a1), (2, .int a2)] [.int z0, .ref (L z1)] := by
  unfold wp_X11_isHome_30 at h
  refine a_iconst (v := 2) C dX11_isHome_30 (by decide) rfl ?_
  refine a_callVI C (c_X11_fails l G cy L E hE u z1 z0 2 k_z1 _ h) k_z1 rfl (by decide) kw_6_101 kw_6_103 kp_43 kw_1_12 kw_6_104 rfl rfl pd_X11_fails ⟨(Nat.le_of_ble_eq_true rfl), (Nat.le_of_ble_eq_true rfl)⟩ dX11_isHome_31 rfl (Nat.le_of_ble_eq_true rfl) ⟨(Nat.le_of_ble_eq_true rfl), (Nat.le_of_ble_eq_true rfl)⟩ rfl (fun r31 u31 h => ?_)
  refine a_if_ne (tgt := 50) C dX11_isHome_34 (by decide) rfl (fun hc => ?_) (fun hc => ?_)
  · replace h := h.2 hc
    refine a_sub (lv' := []) [] rfl ?_
    exact c_X11_isHome_50 C hr hlocks hE ho  u31  h
  · replace h := h.1 hc
    refine a_aload_n C dX11_isHome_37 rfl 0 rfl rfl ?_
    refine a_iload_n C dX11_isHome_38 rfl 1 rfl rfl ?_
    refine a_iload_n C dX11_isHome_39 rfl 2 rfl rfl ?_
    refine a_callVI C (c_X11_home l G cy L E hE u31 o a1 a2 ho _ h) ho rfl (by decide) kw_7_47 kw_7_49 kp_70 kw_1_12 kw_7_50 rfl rfl pd_X11_home ⟨(Nat.le_of_ble_eq_true rfl), (Nat.le_of_ble_eq_true rfl)⟩ dX11_isHome_40 rfl (Nat.le_of_ble_eq_true rfl) ⟨(Nat.le_of_ble_eq_true rfl), (Nat.le_of_ble_eq_true rfl)⟩ rfl (fun r40 u40 h => ?_)
    refine a_if_eq (tgt := 50) C dX11_isHome_43 (by decide) rfl (fun hc => ?_) (fun hc => ?_)
    · replace h := h.1 hc
      refine a_sub (lv' := []) [] rfl ?_
      exact c_X11_isHome_50 C hr hlocks hE ho  u40  h
    · replace h := h.2 hc
      refine a_iconst (v := 1) C dX11_isHome_46 (by decide) rfl ?_
      refine a_goto (tgt := 51) C dX11_isHome_47 (by decide) ?_
      refine a_sub (lv' := []) [] rfl ?_
      exact c_X11_isHome_51 C hr hlocks hE ho  u40 1  h
def wp_X11_isHome (E : ms_En) (u : ms_St) (o : Nat) (a1 : Int32) (a2 : Int32) (post : Int32 → ms_St → Prop) : Prop := wp_X11_noHouse E (ms_sI u o 0 0) o a1 (fun r7 u7 => (r7 = 0 → wp_X11_in E u7 a2 0 9999 (fun r19 u19 => (r19 = 0 → wp_X11_isHome_30 E o a1 a2 post u19 1 o) ∧ (¬ r19 = 0 → wp_X11_isHome_30 E o a1 a2 post u19 0 o))) ∧ (¬ r7 = 0 → wp_X11_isHome_50 E o a1 a2 post u7))
set_option maxHeartbeats 4000000 in
set_option maxRecDepth 100000 in
theorem c_X11_isHome (l : Launch) (G : va_G) (cy : Nat → ClassId) (L : Nat → Nat) (E : ms_En) (hE : ms_WT E) (u : ms_St) (o : Nat) (a1 : Int32) (a2 : Int32) (ho : ms_is E o 11) (post : Int32 → ms_St → Prop) (h : wp_X11_isHome E u o a1 a2 post) : ms_MetI l ⟨"CensusWalkModel", "isHome", "(II)Z"⟩ (Cond.code ⟨"CensusWalkModel", "isHome", "(II)Z"⟩ prog_13_method_60_code 3 (some .boolean) :: lw_g) ({ frames := 2, cells := 0, slots := 0, locals := 43 } : Room) G cy L E [.ref (L o), .int a1, .int a2] u post 0 0 := by
  refine ms_enterI (lv := [(0, .ref (L o)), (1, .int a1), (2, .int a2)]) (by decide) (Nat.le_of_ble_eq_true rfl) rfl ?_
  intro p e s m args below meth c A C hr hlocks
  unfold wp_X11_isHome at h
  refine a_aload_n C dX11_isHome_0 rfl 0 rfl rfl ?_
  refine a_iconst (v := 0) C dX11_isHome_1 (by decide) rfl ?_
  refine s_11_0 C dX11_isHome_2 ho kw_5_222 rfl ?_
  refine a_aload_n C dX11_isHome_5 rfl 0 rfl rfl ?_
  refine a_iload_n C dX11_isHome_6 rfl 1 rfl rfl ?_
  refine a_callVI C (c_X11_noHouse l G cy L E hE (ms_sI u o 0 0) o a1 ho _ h) ho rfl (by decide) kw_6_228 kw_6_230 kp_61 kw_1_12 kw_6_231 rfl rfl pd_X11_noHouse ⟨(Nat.le_of_ble_eq_true rfl), (Nat.le_of_ble_eq_true rfl)⟩ dX11_isHome_7 rfl (Nat.le_of_ble_eq_true rfl) ⟨(Nat.le_of_ble_eq_true rfl), (Nat.le_of_ble_eq_true rfl)⟩ rfl (fun r7 u7 h => ?_)
  refine a_if_ne (tgt := 50) C dX11_isHome_10 (by decide) rfl (fun hc => ?_) (fun hc => ?_)
  · replace h := h.2 hc
    refine a_sub (lv' := []) [] rfl ?_
    exact c_X11_isHome_50 C hr hlocks hE ho  u7  h
  · replace h := h.1 hc
    refine a_aload_n C dX11_isHome_13 rfl 0 rfl rfl ?_
    refine a_iload_n C dX11_isHome_14 rfl 2 rfl rfl ?_
    refine a_iconst (v := 0) C dX11_isHome_15 (by decide) rfl ?_
    refine a_sipush (v := 9999) C dX11_isHome_16 (by decide) rfl ?_
    refine a_callSI C (c_X11_in l G cy L E hE u7 a2 0 9999  _ h) kw_6_98 kw_6_99 kw_1_12 kw_6_100 rfl rfl pd_X11_in ⟨(Nat.le_of_ble_eq_true rfl), (Nat.le_of_ble_eq_true rfl)⟩ dX11_isHome_19 rfl (Nat.le_of_ble_eq_true rfl) ⟨(Nat.le_of_ble_eq_true rfl), (Nat.le_of_ble_eq_true rfl)⟩ rfl (fun r19 u19 h => ?_)
    refine a_if_ne (tgt := 29) C dX11_isHome_22 (by decide) rfl (fun hc => ?_) (fun hc => ?_)
    · replace h := h.2 hc
      refine a_iconst (v := 0) C dX11_isHome_29 (by decide) rfl ?_
      exact c_X11_isHome_30 C hr hlocks hE ho  u19 0 o ho h
    · replace h := h.1 hc
      refine a_iconst (v := 1) C dX11_isHome_25 (by decide) rfl ?_
      refine a_goto (tgt := 30) C dX11_isHome_26 (by decide) ?_
      exact c_X11_isHome_30 C hr hlocks hE ho  u19 1 o ho h

/-! CensusWalkModel.duration(II)I -/
theorem pd_X11_duration : (⟨"CensusWalkModel", "duration", "(II)I"⟩ : MethodName).cls = "CensusWalkModel" ∧ (⟨"CensusWalkModel", "duration", "(II)I"⟩ : MethodName).cls ≠ "java/lang/invoke/MethodHandle" ∧ (⟨"CensusWalkModel", "duration", "(II)I"⟩ : MethodName).cls ≠ "java/lang/invoke/VarHandle" ∧ (parseMethodDescriptor (⟨"CensusWalkModel", "duration", "(II)I"⟩ : MethodName).desc).map (fun d => d.parameters.length) = some 2 := by decide +kernel
def wp_X11_duration_45 (E : ms_En) (o : Nat) (a1 : Int32) (a2 : Int32) (post : Int32 → ms_St → Prop)  (u : ms_St) (z0 : Int32) : Prop := post z0 u
set_option maxHeartbeats 4000000 in
set_option maxRecDepth 100000 in
theorem c_X11_duration_45 {p : Program} {l : Launch} {e : Env} {s : State} {m : MethodId} {args : Array Value} {below : List Frame} {meth : Method} {c : Code} {G : va_G} {cy : Nat → ClassId} {A : Nat → Prop} {L : Nat → Nat} {E : ms_En} (C : ms_Cx p m c cX11_duration 3 s args (Cond.code ⟨"CensusWalkModel", "duration", "(II)I"⟩ prog_13_method_61_code 3 (some .int)) "CensusWalkModel" G cy A) (hr : meth.sig.returnType = (some .int)) (hlocks : meth.locks = false) (hE : ms_WT E) {o : Nat} {a1 : Int32} {a2 : Int32} {post : Int32 → ms_St → Prop}  (ho : ms_is E o 11)  (u : ms_St) (z0 : Int32)  (h : wp_X11_duration_45 E o a1 a2 post u z0) : ms_At p l e ({ frames := 3, cells := 0, slots := 0, locals := 71 } : Room) s m args below meth c 3 G cy A L 0 0 (ms_QI below args s G cy L E A post 0 0) E u 45 [] [.int z0] := by
  unfold wp_X11_duration_45 at h
  exact a_iret C dX11_duration_45 hr hlocks (Nat.le_of_ble_eq_true rfl) (Nat.le_of_ble_eq_true rfl) h
def wp_X11_duration_35 (E : ms_En) (o : Nat) (a1 : Int32) (a2 : Int32) (post : Int32 → ms_St → Prop)  (u : ms_St)  : Prop := wp_X11_duration_45 E o a1 a2 post u 0
set_option maxHeartbeats 4000000 in
set_option maxRecDepth 100000 in
theorem c_X11_duration_35 {p : Program} {l : Launch} {e : Env} {s : State} {m : MethodId} {args : Array Value} {below : List Frame} {meth : Method} {c : Code} {G : va_G} {cy : Nat → ClassId} {A : Nat → Prop} {L : Nat → Nat} {E : ms_En} (C : ms_Cx p m c cX11_duration 3 s args (Cond.code ⟨"CensusWalkModel", "duration", "(II)I"⟩ prog_13_method_61_code 3 (some .int)) "CensusWalkModel" G cy A) (hr : meth.sig.returnType = (some .int)) (hlocks : meth.locks = false) (hE : ms_WT E) {o : Nat} {a1 : Int32} {a2 : Int32} {post : Int32 → ms_St → Prop}  (ho : ms_is E o 11)  (u : ms_St)   (h : wp_X11_duration_35 E o a1 a2 post u ) : ms_At p l e ({ frames := 3, cells := 0, slots := 0, locals := 71 } : Room) s m args below meth c 3 G cy A L 0 0 (ms_QI below args s G cy L E A post 0 0) E u 35 [] [] := by
  unfold wp_X11_duration_35 at h
  refine a_iconst (v := 0) C dX11_duration_35 (by decide) rfl ?_
  refine a_goto (tgt := 45) C dX11_duration_36 (by decide) ?_
  exact c_X11_duration_45 C hr hlocks hE ho  u 0  h
def wp_X11_duration_28 (E : ms_En) (o : Nat) (a1 : Int32) (a2 : Int32) (post : Int32 → ms_St → Prop)  (u : ms_St) (z0 : Int32) (z1 : Nat) : Prop := wp_X11_fails E u z1 z0 2 (fun r29 u29 => (r29 = 0 → wp_X11_visit E u29 o a1 a2 (fun r42 u42 => wp_X11_duration_45 E o a1 a2 post u42 r42)) ∧ (¬ r29 = 0 → wp_X11_duration_35 E o a1 a2 post u29))
set_option maxHeartbeats 4000000 in
set_option maxRecDepth 100000 in
theorem c_X11_duration_28 {p : Program} {l : Launch} {e : Env} {s : State} {m : MethodId} {args : Array Value} {below : List Frame} {meth : Method} {c : Code} {G : va_G} {cy : Nat → ClassId} {A : Nat → Prop} {L : Nat → Nat} {E : ms_En} (C : ms_Cx p m c cX11_duration 3 s args (Cond.code ⟨"CensusWalkModel", "duration", "(II)I"⟩ prog_13_method_61_code 3 (some .int)) "CensusWalkModel" G cy A) (hr : meth.sig.returnType = (some .int)) (hlocks : meth.locks = false) (hE : ms_WT E) {o : Nat} {a1 : Int32} {a2 : Int32} {post : Int32 → ms_St → Prop}  (ho : ms_is E o 11)  (u : ms_St) (z0 : Int32) (z1 : Nat) (k_z1 : ms_is E z1 11) (h : wp_X11_duration_28 E o a1 a2 post u z0 z1) : ms_At p l e ({ frames := 3, cells := 0, slots := 0, locals := 71 } : Room) s m args below meth c 3 G cy A L 0 0 (ms_QI below args s G cy L E A post 0 0) E u 28 [(0, .ref (L o)), (1, .int a1), (2, .int a2)] [.int z0, .ref (L z1)] := by
  unfold wp_X11_duration_28 at h
  refine a_iconst (v := 2) C dX11_duration_28 (by decide) rfl ?_
  refine a_callVI C (c_X11_fails l G cy L E hE u z1 z0 2 k_z1 _ h) k_z1 rfl (by decide) kw_6_101 kw_6_103 kp_43 kw_1_12 kw_6_104 rfl rfl pd_X11_fails ⟨(Nat.le_of_ble_eq_true rfl), (Nat.le_of_ble_eq_true rfl)⟩ dX11_duration_29 rfl (Nat.le_of_ble_eq_true rfl) ⟨(Nat.le_of_ble_eq_true rfl), (Nat.le_of_ble_eq_true rfl)⟩ rfl (fun r29 u29 h => ?_)
  refine a_if_eq (tgt := 39) C dX11_duration_32 (by decide) rfl (fun hc => ?_) (fun hc => ?_)
  · replace h := h.1 hc
    refine a_aload_n C dX11_duration_39 rfl 0 rfl rfl ?_
    refine a_iload_n C dX11_duration_40 rfl 1 rfl rfl ?_
    refine a_iload_n C dX11_duration_41 rfl 2 rfl rfl ?_
    refine a_callVI C (c_X11_visit l G cy L E hE u29 o a1 a2 ho _ h) ho rfl (by decide) kw_7_55 kw_7_57 kp_71 kw_1_12 kw_7_58 rfl rfl pd_X11_visit ⟨(Nat.le_of_ble_eq_true rfl), (Nat.le_of_ble_eq_true rfl)⟩ dX11_duration_42 rfl (Nat.le_of_ble_eq_true rfl) ⟨(Nat.le_of_ble_eq_true rfl), (Nat.le_of_ble_eq_true rfl)⟩ rfl (fun r42 u42 h => ?_)
    refine a_sub (lv' := []) [] rfl ?_
    exact c_X11_duration_45 C hr hlocks hE ho  u42 r42  h
  · replace h := h.2 hc
    refine a_sub (lv' := []) [] rfl ?_
    exact c_X11_duration_35 C hr hlocks hE ho  u29  h
def wp_X11_duration (E : ms_En) (u : ms_St) (o : Nat) (a1 : Int32) (a2 : Int32) (post : Int32 → ms_St → Prop) : Prop := wp_X11_noHouse E (ms_sI u o 0 0) o a1 (fun r7 u7 => (r7 = 0 → wp_X11_in E u7 a2 1 2 (fun r17 u17 => (r17 = 0 → wp_X11_duration_28 E o a1 a2 post u17 1 o) ∧ (¬ r17 = 0 → wp_X11_duration_28 E o a1 a2 post u17 0 o))) ∧ (¬ r7 = 0 → wp_X11_duration_35 E o a1 a2 post u7))
set_option maxHeartbeats 4000000 in
set_option maxRecDepth 100000 in
theorem c_X11_duration (l : Launch) (G : va_G) (cy : Nat → ClassId) (L : Nat → Nat) (E : ms_En) (hE : ms_WT E) (u : ms_St) (o : Nat) (a1 : Int32) (a2 : Int32) (ho : ms_is E o 11) (post : Int32 → ms_St → Prop) (h : wp_X11_duration E u o a1 a2 post) : ms_MetI l ⟨"CensusWalkModel", "duration", "(II)I"⟩ (Cond.code ⟨"CensusWalkModel", "duration", "(II)I"⟩ prog_13_method_61_code 3 (some .int) :: lw_g) ({ frames := 3, cells := 0, slots := 0, locals := 71 } : Room) G cy L E [.ref (L o), .int a1, .int a2] u post 0 0 := by
  refine ms_enterI (lv := [(0, .ref (L o)), (1, .int a1), (2, .int a2)]) (by decide) (Nat.le_of_ble_eq_true rfl) rfl ?_
  intro p e s m args below meth c A C hr hlocks
  unfold wp_X11_duration at h
  refine a_aload_n C dX11_duration_0 rfl 0 rfl rfl ?_
  refine a_iconst (v := 0) C dX11_duration_1 (by decide) rfl ?_
  refine s_11_0 C dX11_duration_2 ho kw_5_222 rfl ?_
  refine a_aload_n C dX11_duration_5 rfl 0 rfl rfl ?_
  refine a_iload_n C dX11_duration_6 rfl 1 rfl rfl ?_
  refine a_callVI C (c_X11_noHouse l G cy L E hE (ms_sI u o 0 0) o a1 ho _ h) ho rfl (by decide) kw_6_228 kw_6_230 kp_61 kw_1_12 kw_6_231 rfl rfl pd_X11_noHouse ⟨(Nat.le_of_ble_eq_true rfl), (Nat.le_of_ble_eq_true rfl)⟩ dX11_duration_7 rfl (Nat.le_of_ble_eq_true rfl) ⟨(Nat.le_of_ble_eq_true rfl), (Nat.le_of_ble_eq_true rfl)⟩ rfl (fun r7 u7 h => ?_)
  refine a_if_ne (tgt := 35) C dX11_duration_10 (by decide) rfl (fun hc => ?_) (fun hc => ?_)
  · replace h := h.2 hc
    refine a_sub (lv' := []) [] rfl ?_
    exact c_X11_duration_35 C hr hlocks hE ho  u7  h
  · replace h := h.1 hc
    refine a_aload_n C dX11_duration_13 rfl 0 rfl rfl ?_
    refine a_iload_n C dX11_duration_14 rfl 2 rfl rfl ?_
    refine a_iconst (v := 1) C dX11_duration_15 (by decide) rfl ?_
    refine a_iconst (v := 2) C dX11_duration_16 (by decide) rfl ?_
    refine a_callSI C (c_X11_in l G cy L E hE u7 a2 1 2  _ h) kw_6_98 kw_6_99 kw_1_12 kw_6_100 rfl rfl pd_X11_in ⟨(Nat.le_of_ble_eq_true rfl), (Nat.le_of_ble_eq_true rfl)⟩ dX11_duration_17 rfl (Nat.le_of_ble_eq_true rfl) ⟨(Nat.le_of_ble_eq_true rfl), (Nat.le_of_ble_eq_true rfl)⟩ rfl (fun r17 u17 h => ?_)
    refine a_if_ne (tgt := 27) C dX11_duration_20 (by decide) rfl (fun hc => ?_) (fun hc => ?_)
    · replace h := h.2 hc
      refine a_iconst (v := 0) C dX11_duration_27 (by decide) rfl ?_
      exact c_X11_duration_28 C hr hlocks hE ho  u17 0 o ho h
    · replace h := h.1 hc
      refine a_iconst (v := 1) C dX11_duration_23 (by decide) rfl ?_
      refine a_goto (tgt := 28) C dX11_duration_24 (by decide) ?_
      exact c_X11_duration_28 C hr hlocks hE ho  u17 1 o ho h

/-! CensusWalkModel.planLength(I)I -/
theorem pd_X11_planLength : (⟨"CensusWalkModel", "planLength", "(I)I"⟩ : MethodName).cls = "CensusWalkModel" ∧ (⟨"CensusWalkModel", "planLength", "(I)I"⟩ : MethodName).cls ≠ "java/lang/invoke/MethodHandle" ∧ (⟨"CensusWalkModel", "planLength", "(I)I"⟩ : MethodName).cls ≠ "java/lang/invoke/VarHandle" ∧ (parseMethodDescriptor (⟨"CensusWalkModel", "planLength", "(I)I"⟩ : MethodName).desc).map (fun d => d.parameters.length) = some 1 := by decide +kernel
def wp_X11_planLength_28 (E : ms_En) (o : Nat) (a1 : Int32) (post : Int32 → ms_St → Prop)  (u : ms_St) (z0 : Int32) : Prop := post z0 u
set_option maxHeartbeats 4000000 in
set_option maxRecDepth 100000 in
theorem c_X11_planLength_28 {p : Program} {l : Launch} {e : Env} {s : State} {m : MethodId} {args : Array Value} {below : List Frame} {meth : Method} {c : Code} {G : va_G} {cy : Nat → ClassId} {A : Nat → Prop} {L : Nat → Nat} {E : ms_En} (C : ms_Cx p m c cX11_planLength 2 s args (Cond.code ⟨"CensusWalkModel", "planLength", "(I)I"⟩ prog_13_method_62_code 2 (some .int)) "CensusWalkModel" G cy A) (hr : meth.sig.returnType = (some .int)) (hlocks : meth.locks = false) (hE : ms_WT E) {o : Nat} {a1 : Int32} {post : Int32 → ms_St → Prop}  (ho : ms_is E o 11)  (u : ms_St) (z0 : Int32)  (h : wp_X11_planLength_28 E o a1 post u z0) : ms_At p l e ({ frames := 2, cells := 0, slots := 0, locals := 43 } : Room) s m args below meth c 2 G cy A L 0 0 (ms_QI below args s G cy L E A post 0 0) E u 28 [] [.int z0] := by
  unfold wp_X11_planLength_28 at h
  exact a_iret C dX11_planLength_28 hr hlocks (Nat.le_of_ble_eq_true rfl) (Nat.le_of_ble_eq_true rfl) h
def wp_X11_planLength (E : ms_En) (u : ms_St) (o : Nat) (a1 : Int32) (post : Int32 → ms_St → Prop) : Prop := wp_X11_noWalker E (ms_sI u o 0 0) o a1 (fun r7 u7 => (r7 = 0 → wp_X11_walker E u7 a1 (fun r22 u22 => vp_in (r22 + 2) 1613 ∧ (wp_X11_planLength_28 E o a1 post u22 (ms_I u22 (ms_at E o 8) (Int32.toNatClampNeg (r22 + 2)))))) ∧ (¬ r7 = 0 → wp_X11_planLength_28 E o a1 post u7 0))
set_option maxHeartbeats 4000000 in
set_option maxRecDepth 100000 in
theorem c_X11_planLength (l : Launch) (G : va_G) (cy : Nat → ClassId) (L : Nat → Nat) (E : ms_En) (hE : ms_WT E) (u : ms_St) (o : Nat) (a1 : Int32) (ho : ms_is E o 11) (post : Int32 → ms_St → Prop) (h : wp_X11_planLength E u o a1 post) : ms_MetI l ⟨"CensusWalkModel", "planLength", "(I)I"⟩ (Cond.code ⟨"CensusWalkModel", "planLength", "(I)I"⟩ prog_13_method_62_code 2 (some .int) :: lw_g) ({ frames := 2, cells := 0, slots := 0, locals := 43 } : Room) G cy L E [.ref (L o), .int a1] u post 0 0 := by
  refine ms_enterI (lv := [(0, .ref (L o)), (1, .int a1)]) (by decide) (Nat.le_of_ble_eq_true rfl) rfl ?_
  intro p e s m args below meth c A C hr hlocks
  unfold wp_X11_planLength at h
  refine a_aload_n C dX11_planLength_0 rfl 0 rfl rfl ?_
  refine a_iconst (v := 0) C dX11_planLength_1 (by decide) rfl ?_
  refine s_11_0 C dX11_planLength_2 ho kw_5_222 rfl ?_
  refine a_aload_n C dX11_planLength_5 rfl 0 rfl rfl ?_
  refine a_iload_n C dX11_planLength_6 rfl 1 rfl rfl ?_
  refine a_callVI C (c_X11_noWalker l G cy L E hE (ms_sI u o 0 0) o a1 ho _ h) ho rfl (by decide) kw_7_72 kw_7_74 kp_72 kw_1_12 kw_7_75 rfl rfl pd_X11_noWalker ⟨(Nat.le_of_ble_eq_true rfl), (Nat.le_of_ble_eq_true rfl)⟩ dX11_planLength_7 rfl (Nat.le_of_ble_eq_true rfl) ⟨(Nat.le_of_ble_eq_true rfl), (Nat.le_of_ble_eq_true rfl)⟩ rfl (fun r7 u7 h => ?_)
  refine a_if_eq (tgt := 17) C dX11_planLength_10 (by decide) rfl (fun hc => ?_) (fun hc => ?_)
  · replace h := h.1 hc
    refine a_aload_n C dX11_planLength_17 rfl 0 rfl rfl ?_
    refine g_11_8 C hE dX11_planLength_18 ho kw_5_230 rfl ?_
    have k18 : ms_is E (ms_at E o 8) 13 := ms_wt hE ho rfl (by decide)
    have n18 : ms_N E (ms_at E o 8) = 1613 := ms_wl hE ho (by decide) (by decide) rfl
    refine a_iload_n C dX11_planLength_21 rfl 1 rfl rfl ?_
    refine a_callSI C (c_X11_walker l G cy L E hE u7 a1  _ h) kw_6_169 kw_6_170 kw_1_12 kw_6_171 rfl rfl pd_X11_walker ⟨(Nat.le_of_ble_eq_true rfl), (Nat.le_of_ble_eq_true rfl)⟩ dX11_planLength_22 rfl (Nat.le_of_ble_eq_true rfl) ⟨(Nat.le_of_ble_eq_true rfl), (Nat.le_of_ble_eq_true rfl)⟩ rfl (fun r22 u22 h => ?_)
    refine a_iconst (v := 2) C dX11_planLength_25 (by decide) rfl ?_
    refine a_iadd C dX11_planLength_26 rfl ?_
    obtain ⟨q27, h⟩ := h
    refine a_iald C dX11_planLength_27 k18 n18 q27 rfl ?_
    refine a_sub (lv' := []) [] rfl ?_
    exact c_X11_planLength_28 C hr hlocks hE ho  u22 (ms_I u22 (ms_at E o 8) (Int32.toNatClampNeg (r22 + 2)))  h
  · replace h := h.2 hc
    refine a_iconst (v := 0) C dX11_planLength_13 (by decide) rfl ?_
    refine a_goto (tgt := 28) C dX11_planLength_14 (by decide) ?_
    refine a_sub (lv' := []) [] rfl ?_
    exact c_X11_planLength_28 C hr hlocks hE ho  u7 0  h

/-! CensusWalkModel.noPlanned(II)Z -/
theorem pd_X11_noPlanned : (⟨"CensusWalkModel", "noPlanned", "(II)Z"⟩ : MethodName).cls = "CensusWalkModel" ∧ (⟨"CensusWalkModel", "noPlanned", "(II)Z"⟩ : MethodName).cls ≠ "java/lang/invoke/MethodHandle" ∧ (⟨"CensusWalkModel", "noPlanned", "(II)Z"⟩ : MethodName).cls ≠ "java/lang/invoke/VarHandle" ∧ (parseMethodDescriptor (⟨"CensusWalkModel", "noPlanned", "(II)Z"⟩ : MethodName).desc).map (fun d => d.parameters.length) = some 2 := by decide +kernel
def wp_X11_noPlanned_47 (E : ms_En) (o : Nat) (a1 : Int32) (a2 : Int32) (post : Int32 → ms_St → Prop)  (u : ms_St) (z0 : Int32) : Prop := (z0 = 0 ∨ z0 = 1) ∧ (post z0 u)
set_option maxHeartbeats 4000000 in
set_option maxRecDepth 100000 in
theorem c_X11_noPlanned_47 {p : Program} {l : Launch} {e : Env} {s : State} {m : MethodId} {args : Array Value} {below : List Frame} {meth : Method} {c : Code} {G : va_G} {cy : Nat → ClassId} {A : Nat → Prop} {L : Nat → Nat} {E : ms_En} (C : ms_Cx p m c cX11_noPlanned 3 s args (Cond.code ⟨"CensusWalkModel", "noPlanned", "(II)Z"⟩ prog_13_method_63_code 3 (some .boolean)) "CensusWalkModel" G cy A) (hr : meth.sig.returnType = (some .boolean)) (hlocks : meth.locks = false) (hE : ms_WT E) {o : Nat} {a1 : Int32} {a2 : Int32} {post : Int32 → ms_St → Prop}  (ho : ms_is E o 11)  (u : ms_St) (z0 : Int32)  (h : wp_X11_noPlanned_47 E o a1 a2 post u z0) : ms_At p l e ({ frames := 2, cells := 0, slots := 0, locals := 43 } : Room) s m args below meth c 3 G cy A L 0 0 (ms_QI below args s G cy L E A post 0 0) E u 47 [] [.int z0] := by
  unfold wp_X11_noPlanned_47 at h
  obtain ⟨q47, h⟩ := h
  exact a_zret C dX11_noPlanned_47 hr hlocks (Nat.le_of_ble_eq_true rfl) (Nat.le_of_ble_eq_true rfl) (ms_nz q47) h
def wp_X11_noPlanned_42 (E : ms_En) (o : Nat) (a1 : Int32) (a2 : Int32) (post : Int32 → ms_St → Prop)  (u : ms_St)  : Prop := wp_X11_noPlanned_47 E o a1 a2 post u 1
set_option maxHeartbeats 4000000 in
set_option maxRecDepth 100000 in
theorem c_X11_noPlanned_42 {p : Program} {l : Launch} {e : Env} {s : State} {m : MethodId} {args : Array Value} {below : List Frame} {meth : Method} {c : Code} {G : va_G} {cy : Nat → ClassId} {A : Nat → Prop} {L : Nat → Nat} {E : ms_En} (C : ms_Cx p m c cX11_noPlanned 3 s args (Cond.code ⟨"CensusWalkModel", "noPlanned", "(II)Z"⟩ prog_13_method_63_code 3 (some .boolean)) "CensusWalkModel" G cy A) (hr : meth.sig.returnType = (some .boolean)) (hlocks : meth.locks = false) (hE : ms_WT E) {o : Nat} {a1 : Int32} {a2 : Int32} {post : Int32 → ms_St → Prop}  (ho : ms_is E o 11)  (u : ms_St)   (h : wp_X11_noPlanned_42 E o a1 a2 post u ) : ms_At p l e ({ frames := 2, cells := 0, slots := 0, locals := 43 } : Room) s m args below meth c 3 G cy A L 0 0 (ms_QI below args s G cy L E A post 0 0) E u 42 [] [] := by
  unfold wp_X11_noPlanned_42 at h
  refine a_iconst (v := 1) C dX11_noPlanned_42 (by decide) rfl ?_
  refine a_goto (tgt := 47) C dX11_noPlanned_43 (by decide) ?_
  exact c_X11_noPlanned_47 C hr hlocks hE ho  u 1  h
def wp_X11_noPlanned_35 (E : ms_En) (o : Nat) (a1 : Int32) (a2 : Int32) (post : Int32 → ms_St → Prop)  (u : ms_St) (z0 : Int32) (z1 : Nat) : Prop := wp_X11_fails E u z1 z0 1 (fun r36 u36 => (r36 = 0 → wp_X11_noPlanned_47 E o a1 a2 post u36 0) ∧ (¬ r36 = 0 → wp_X11_noPlanned_42 E o a1 a2 post u36))
set_option maxHeartbeats 4000000 in
set_option maxRecDepth 100000 in
theorem c_X11_noPlanned_35 {p : Program} {l : Launch} {e : Env} {s : State} {m : MethodId} {args : Array Value} {below : List Frame} {meth : Method} {c : Code} {G : va_G} {cy : Nat → ClassId} {A : Nat → Prop} {L : Nat → Nat} {E : ms_En} (C : ms_Cx p m c cX11_noPlanned 3 s args (Cond.code ⟨"CensusWalkModel", "noPlanned", "(II)Z"⟩ prog_13_method_63_code 3 (some .boolean)) "CensusWalkModel" G cy A) (hr : meth.sig.returnType = (some .boolean)) (hlocks : meth.locks = false) (hE : ms_WT E) {o : Nat} {a1 : Int32} {a2 : Int32} {post : Int32 → ms_St → Prop}  (ho : ms_is E o 11)  (u : ms_St) (z0 : Int32) (z1 : Nat) (k_z1 : ms_is E z1 11) (h : wp_X11_noPlanned_35 E o a1 a2 post u z0 z1) : ms_At p l e ({ frames := 2, cells := 0, slots := 0, locals := 43 } : Room) s m args below meth c 3 G cy A L 0 0 (ms_QI below args s G cy L E A post 0 0) E u 35 [] [.int z0, .ref (L z1)] := by
  unfold wp_X11_noPlanned_35 at h
  refine a_iconst (v := 1) C dX11_noPlanned_35 (by decide) rfl ?_
  refine a_callVI C (c_X11_fails l G cy L E hE u z1 z0 1 k_z1 _ h) k_z1 rfl (by decide) kw_6_101 kw_6_103 kp_43 kw_1_12 kw_6_104 rfl rfl pd_X11_fails ⟨(Nat.le_of_ble_eq_true rfl), (Nat.le_of_ble_eq_true rfl)⟩ dX11_noPlanned_36 rfl (Nat.le_of_ble_eq_true rfl) ⟨(Nat.le_of_ble_eq_true rfl), (Nat.le_of_ble_eq_true rfl)⟩ rfl (fun r36 u36 h => ?_)
  refine a_if_eq (tgt := 46) C dX11_noPlanned_39 (by decide) rfl (fun hc => ?_) (fun hc => ?_)
  · replace h := h.1 hc
    refine a_iconst (v := 0) C dX11_noPlanned_46 (by decide) rfl ?_
    exact c_X11_noPlanned_47 C hr hlocks hE ho  u36 0  h
  · replace h := h.2 hc
    exact c_X11_noPlanned_42 C hr hlocks hE ho  u36  h
def wp_X11_noPlanned (E : ms_En) (u : ms_St) (o : Nat) (a1 : Int32) (a2 : Int32) (post : Int32 → ms_St → Prop) : Prop := wp_X11_noWalker E u o a1 (fun r2 u2 => (r2 = 0 → wp_X11_walker E u2 a1 (fun r16 u16 => vp_in (r16 + 2) 1613 ∧ (wp_X11_in E u16 a2 0 ((ms_I u16 (ms_at E o 8) (Int32.toNatClampNeg (r16 + 2))) - 1) (fun r24 u24 => (r24 = 0 → wp_X11_noPlanned_35 E o a1 a2 post u24 1 o) ∧ (¬ r24 = 0 → wp_X11_noPlanned_35 E o a1 a2 post u24 0 o))))) ∧ (¬ r2 = 0 → wp_X11_noPlanned_42 E o a1 a2 post u2))
set_option maxHeartbeats 4000000 in
set_option maxRecDepth 100000 in
theorem c_X11_noPlanned (l : Launch) (G : va_G) (cy : Nat → ClassId) (L : Nat → Nat) (E : ms_En) (hE : ms_WT E) (u : ms_St) (o : Nat) (a1 : Int32) (a2 : Int32) (ho : ms_is E o 11) (post : Int32 → ms_St → Prop) (h : wp_X11_noPlanned E u o a1 a2 post) : ms_MetI l ⟨"CensusWalkModel", "noPlanned", "(II)Z"⟩ (Cond.code ⟨"CensusWalkModel", "noPlanned", "(II)Z"⟩ prog_13_method_63_code 3 (some .boolean) :: lw_g) ({ frames := 2, cells := 0, slots := 0, locals := 43 } : Room) G cy L E [.ref (L o), .int a1, .int a2] u post 0 0 := by
  refine ms_enterI (lv := [(0, .ref (L o)), (1, .int a1), (2, .int a2)]) (by decide) (Nat.le_of_ble_eq_true rfl) rfl ?_
  intro p e s m args below meth c A C hr hlocks
  unfold wp_X11_noPlanned at h
  refine a_aload_n C dX11_noPlanned_0 rfl 0 rfl rfl ?_
  refine a_iload_n C dX11_noPlanned_1 rfl 1 rfl rfl ?_
  refine a_callVI C (c_X11_noWalker l G cy L E hE u o a1 ho _ h) ho rfl (by decide) kw_7_72 kw_7_74 kp_72 kw_1_12 kw_7_75 rfl rfl pd_X11_noWalker ⟨(Nat.le_of_ble_eq_true rfl), (Nat.le_of_ble_eq_true rfl)⟩ dX11_noPlanned_2 rfl (Nat.le_of_ble_eq_true rfl) ⟨(Nat.le_of_ble_eq_true rfl), (Nat.le_of_ble_eq_true rfl)⟩ rfl (fun r2 u2 h => ?_)
  refine a_if_ne (tgt := 42) C dX11_noPlanned_5 (by decide) rfl (fun hc => ?_) (fun hc => ?_)
  · replace h := h.2 hc
    refine a_sub (lv' := []) [] rfl ?_
    exact c_X11_noPlanned_42 C hr hlocks hE ho  u2  h
  · replace h := h.1 hc
    refine a_aload_n C dX11_noPlanned_8 rfl 0 rfl rfl ?_
    refine a_iload_n C dX11_noPlanned_9 rfl 2 rfl rfl ?_
    refine a_iconst (v := 0) C dX11_noPlanned_10 (by decide) rfl ?_
    refine a_aload_n C dX11_noPlanned_11 rfl 0 rfl rfl ?_
    refine g_11_8 C hE dX11_noPlanned_12 ho kw_5_230 rfl ?_
    have k12 : ms_is E (ms_at E o 8) 13 := ms_wt hE ho rfl (by decide)
    have n12 : ms_N E (ms_at E o 8) = 1613 := ms_wl hE ho (by decide) (by decide) rfl
    refine a_iload_n C dX11_noPlanned_15 rfl 1 rfl rfl ?_
    refine a_callSI C (c_X11_walker l G cy L E hE u2 a1  _ h) kw_6_169 kw_6_170 kw_1_12 kw_6_171 rfl rfl pd_X11_walker ⟨(Nat.le_of_ble_eq_true rfl), (Nat.le_of_ble_eq_true rfl)⟩ dX11_noPlanned_16 rfl (Nat.le_of_ble_eq_true rfl) ⟨(Nat.le_of_ble_eq_true rfl), (Nat.le_of_ble_eq_true rfl)⟩ rfl (fun r16 u16 h => ?_)
    refine a_iconst (v := 2) C dX11_noPlanned_19 (by decide) rfl ?_
    refine a_iadd C dX11_noPlanned_20 rfl ?_
    obtain ⟨q21, h⟩ := h
    refine a_iald C dX11_noPlanned_21 k12 n12 q21 rfl ?_
    refine a_iconst (v := 1) C dX11_noPlanned_22 (by decide) rfl ?_
    refine a_isub C dX11_noPlanned_23 rfl ?_
    refine a_callSI C (c_X11_in l G cy L E hE u16 a2 0 ((ms_I u16 (ms_at E o 8) (Int32.toNatClampNeg (r16 + 2))) - 1)  _ h) kw_6_98 kw_6_99 kw_1_12 kw_6_100 rfl rfl pd_X11_in ⟨(Nat.le_of_ble_eq_true rfl), (Nat.le_of_ble_eq_true rfl)⟩ dX11_noPlanned_24 rfl (Nat.le_of_ble_eq_true rfl) ⟨(Nat.le_of_ble_eq_true rfl), (Nat.le_of_ble_eq_true rfl)⟩ rfl (fun r24 u24 h => ?_)
    refine a_if_ne (tgt := 34) C dX11_noPlanned_27 (by decide) rfl (fun hc => ?_) (fun hc => ?_)
    · replace h := h.2 hc
      refine a_iconst (v := 0) C dX11_noPlanned_34 (by decide) rfl ?_
      refine a_sub (lv' := []) [] rfl ?_
      exact c_X11_noPlanned_35 C hr hlocks hE ho  u24 0 o ho h
    · replace h := h.1 hc
      refine a_iconst (v := 1) C dX11_noPlanned_30 (by decide) rfl ?_
      refine a_goto (tgt := 35) C dX11_noPlanned_31 (by decide) ?_
      refine a_sub (lv' := []) [] rfl ?_
      exact c_X11_noPlanned_35 C hr hlocks hE ho  u24 1 o ho h

/-! CensusWalkModel.planned(II)I -/
theorem pd_X11_planned : (⟨"CensusWalkModel", "planned", "(II)I"⟩ : MethodName).cls = "CensusWalkModel" ∧ (⟨"CensusWalkModel", "planned", "(II)I"⟩ : MethodName).cls ≠ "java/lang/invoke/MethodHandle" ∧ (⟨"CensusWalkModel", "planned", "(II)I"⟩ : MethodName).cls ≠ "java/lang/invoke/VarHandle" ∧ (parseMethodDescriptor (⟨"CensusWalkModel", "planned", "(II)I"⟩ : MethodName).desc).map (fun d => d.parameters.length) = some 2 := by decide +kernel
def wp_X11_planned_31 (E : ms_En) (o : Nat) (a1 : Int32) (a2 : Int32) (post : Int32 → ms_St → Prop)  (u : ms_St) (z0 : Int32) : Prop := post z0 u
set_option maxHeartbeats 4000000 in
set_option maxRecDepth 100000 in
theorem c_X11_planned_31 {p : Program} {l : Launch} {e : Env} {s : State} {m : MethodId} {args : Array Value} {below : List Frame} {meth : Method} {c : Code} {G : va_G} {cy : Nat → ClassId} {A : Nat → Prop} {L : Nat → Nat} {E : ms_En} (C : ms_Cx p m c cX11_planned 3 s args (Cond.code ⟨"CensusWalkModel", "planned", "(II)I"⟩ prog_13_method_64_code 3 (some .int)) "CensusWalkModel" G cy A) (hr : meth.sig.returnType = (some .int)) (hlocks : meth.locks = false) (hE : ms_WT E) {o : Nat} {a1 : Int32} {a2 : Int32} {post : Int32 → ms_St → Prop}  (ho : ms_is E o 11)  (u : ms_St) (z0 : Int32)  (h : wp_X11_planned_31 E o a1 a2 post u z0) : ms_At p l e ({ frames := 3, cells := 0, slots := 0, locals := 65 } : Room) s m args below meth c 3 G cy A L 0 0 (ms_QI below args s G cy L E A post 0 0) E u 31 [] [.int z0] := by
  unfold wp_X11_planned_31 at h
  exact a_iret C dX11_planned_31 hr hlocks (Nat.le_of_ble_eq_true rfl) (Nat.le_of_ble_eq_true rfl) h
def wp_X11_planned (E : ms_En) (u : ms_St) (o : Nat) (a1 : Int32) (a2 : Int32) (post : Int32 → ms_St → Prop) : Prop := wp_X11_noPlanned E (ms_sI u o 0 0) o a1 a2 (fun r8 u8 => (r8 = 0 → wp_X11_walker E u8 a1 (fun r23 u23 => vp_in ((r23 + 3) + a2) 1613 ∧ (wp_X11_planned_31 E o a1 a2 post u23 (ms_I u23 (ms_at E o 8) (Int32.toNatClampNeg ((r23 + 3) + a2)))))) ∧ (¬ r8 = 0 → wp_X11_planned_31 E o a1 a2 post u8 0))
set_option maxHeartbeats 4000000 in
set_option maxRecDepth 100000 in
theorem c_X11_planned (l : Launch) (G : va_G) (cy : Nat → ClassId) (L : Nat → Nat) (E : ms_En) (hE : ms_WT E) (u : ms_St) (o : Nat) (a1 : Int32) (a2 : Int32) (ho : ms_is E o 11) (post : Int32 → ms_St → Prop) (h : wp_X11_planned E u o a1 a2 post) : ms_MetI l ⟨"CensusWalkModel", "planned", "(II)I"⟩ (Cond.code ⟨"CensusWalkModel", "planned", "(II)I"⟩ prog_13_method_64_code 3 (some .int) :: lw_g) ({ frames := 3, cells := 0, slots := 0, locals := 65 } : Room) G cy L E [.ref (L o), .int a1, .int a2] u post 0 0 := by
  refine ms_enterI (lv := [(0, .ref (L o)), (1, .int a1), (2, .int a2)]) (by decide) (Nat.le_of_ble_eq_true rfl) rfl ?_
  intro p e s m args below meth c A C hr hlocks
  unfold wp_X11_planned at h
  refine a_aload_n C dX11_planned_0 rfl 0 rfl rfl ?_
  refine a_iconst (v := 0) C dX11_planned_1 (by decide) rfl ?_
  refine s_11_0 C dX11_planned_2 ho kw_5_222 rfl ?_
  refine a_aload_n C dX11_planned_5 rfl 0 rfl rfl ?_
  refine a_iload_n C dX11_planned_6 rfl 1 rfl rfl ?_
  refine a_iload_n C dX11_planned_7 rfl 2 rfl rfl ?_
  refine a_callVI C (c_X11_noPlanned l G cy L E hE (ms_sI u o 0 0) o a1 a2 ho _ h) ho rfl (by decide) kw_7_80 kw_7_82 kp_73 kw_1_12 kw_7_83 rfl rfl pd_X11_noPlanned ⟨(Nat.le_of_ble_eq_true rfl), (Nat.le_of_ble_eq_true rfl)⟩ dX11_planned_8 rfl (Nat.le_of_ble_eq_true rfl) ⟨(Nat.le_of_ble_eq_true rfl), (Nat.le_of_ble_eq_true rfl)⟩ rfl (fun r8 u8 h => ?_)
  refine a_if_eq (tgt := 18) C dX11_planned_11 (by decide) rfl (fun hc => ?_) (fun hc => ?_)
  · replace h := h.1 hc
    refine a_aload_n C dX11_planned_18 rfl 0 rfl rfl ?_
    refine g_11_8 C hE dX11_planned_19 ho kw_5_230 rfl ?_
    have k19 : ms_is E (ms_at E o 8) 13 := ms_wt hE ho rfl (by decide)
    have n19 : ms_N E (ms_at E o 8) = 1613 := ms_wl hE ho (by decide) (by decide) rfl
    refine a_iload_n C dX11_planned_22 rfl 1 rfl rfl ?_
    refine a_callSI C (c_X11_walker l G cy L E hE u8 a1  _ h) kw_6_169 kw_6_170 kw_1_12 kw_6_171 rfl rfl pd_X11_walker ⟨(Nat.le_of_ble_eq_true rfl), (Nat.le_of_ble_eq_true rfl)⟩ dX11_planned_23 rfl (Nat.le_of_ble_eq_true rfl) ⟨(Nat.le_of_ble_eq_true rfl), (Nat.le_of_ble_eq_true rfl)⟩ rfl (fun r23 u23 h => ?_)
    refine a_iconst (v := 3) C dX11_planned_26 (by decide) rfl ?_
    refine a_iadd C dX11_planned_27 rfl ?_
    refine a_iload_n C dX11_planned_28 rfl 2 rfl rfl ?_
    refine a_iadd C dX11_planned_29 rfl ?_
    obtain ⟨q30, h⟩ := h
    refine a_iald C dX11_planned_30 k19 n19 q30 rfl ?_
    refine a_sub (lv' := []) [] rfl ?_
    exact c_X11_planned_31 C hr hlocks hE ho  u23 (ms_I u23 (ms_at E o 8) (Int32.toNatClampNeg ((r23 + 3) + a2)))  h
  · replace h := h.2 hc
    refine a_iconst (v := 0) C dX11_planned_14 (by decide) rfl ?_
    refine a_goto (tgt := 31) C dX11_planned_15 (by decide) ?_
    refine a_sub (lv' := []) [] rfl ?_
    exact c_X11_planned_31 C hr hlocks hE ho  u8 0  h

/-! CensusWalkModel.result(II)I -/
theorem pd_X11_result : (⟨"CensusWalkModel", "result", "(II)I"⟩ : MethodName).cls = "CensusWalkModel" ∧ (⟨"CensusWalkModel", "result", "(II)I"⟩ : MethodName).cls ≠ "java/lang/invoke/MethodHandle" ∧ (⟨"CensusWalkModel", "result", "(II)I"⟩ : MethodName).cls ≠ "java/lang/invoke/VarHandle" ∧ (parseMethodDescriptor (⟨"CensusWalkModel", "result", "(II)I"⟩ : MethodName).desc).map (fun d => d.parameters.length) = some 2 := by decide +kernel
def wp_X11_result (E : ms_En) (u : ms_St) (o : Nat) (a1 : Int32) (a2 : Int32) (post : Int32 → ms_St → Prop) : Prop := wp_X11_noPlanned E (ms_sI u o 0 0) o a1 a2 (fun r8 u8 => (r8 = 0 → wp_X11_simulate E u8 o (fun u17 => vp_in ((12 * a1) + a2) 36 ∧ (post (ms_I u17 (ms_at E o 20) (Int32.toNatClampNeg ((12 * a1) + a2))) u17))) ∧ (¬ r8 = 0 → post 0 u8))
set_option maxHeartbeats 4000000 in
set_option maxRecDepth 100000 in
theorem c_X11_result (l : Launch) (G : va_G) (cy : Nat → ClassId) (L : Nat → Nat) (E : ms_En) (hE : ms_WT E) (u : ms_St) (o : Nat) (a1 : Int32) (a2 : Int32) (ho : ms_is E o 11) (post : Int32 → ms_St → Prop) (h : wp_X11_result E u o a1 a2 post) : ms_MetI l ⟨"CensusWalkModel", "result", "(II)I"⟩ (Cond.code ⟨"CensusWalkModel", "result", "(II)I"⟩ prog_13_method_65_code 3 (some .int) :: lw_g) ({ frames := 9, cells := 0, slots := 0, locals := 199 } : Room) G cy L E [.ref (L o), .int a1, .int a2] u post 0 0 := by
  refine ms_enterI (lv := [(0, .ref (L o)), (1, .int a1), (2, .int a2)]) (by decide) (Nat.le_of_ble_eq_true rfl) rfl ?_
  intro p e s m args below meth c A C hr hlocks
  unfold wp_X11_result at h
  refine a_aload_n C dX11_result_0 rfl 0 rfl rfl ?_
  refine a_iconst (v := 0) C dX11_result_1 (by decide) rfl ?_
  refine s_11_0 C dX11_result_2 ho kw_5_222 rfl ?_
  refine a_aload_n C dX11_result_5 rfl 0 rfl rfl ?_
  refine a_iload_n C dX11_result_6 rfl 1 rfl rfl ?_
  refine a_iload_n C dX11_result_7 rfl 2 rfl rfl ?_
  refine a_callVI C (c_X11_noPlanned l G cy L E hE (ms_sI u o 0 0) o a1 a2 ho _ h) ho rfl (by decide) kw_7_80 kw_7_82 kp_73 kw_1_12 kw_7_83 rfl rfl pd_X11_noPlanned ⟨(Nat.le_of_ble_eq_true rfl), (Nat.le_of_ble_eq_true rfl)⟩ dX11_result_8 rfl (Nat.le_of_ble_eq_true rfl) ⟨(Nat.le_of_ble_eq_true rfl), (Nat.le_of_ble_eq_true rfl)⟩ rfl (fun r8 u8 h => ?_)
  refine a_if_eq (tgt := 16) C dX11_result_11 (by decide) rfl (fun hc => ?_) (fun hc => ?_)
  · replace h := h.1 hc
    refine a_aload_n C dX11_result_16 rfl 0 rfl rfl ?_
    refine a_callVV C (c_X11_simulate l G cy L E hE u8 o ho _ h) ho rfl (by decide) kw_7_88 kw_7_90 kp_74 kw_1_12 kw_7_91 rfl rfl pd_X11_simulate ⟨(Nat.le_of_ble_eq_true rfl), (Nat.le_of_ble_eq_true rfl)⟩ dX11_result_17 rfl (Nat.le_of_ble_eq_true rfl) ⟨(Nat.le_of_ble_eq_true rfl), (Nat.le_of_ble_eq_true rfl)⟩ rfl (fun u17 h => ?_)
    refine a_aload_n C dX11_result_20 rfl 0 rfl rfl ?_
    refine g_11_20 C hE dX11_result_21 ho kw_6_2 rfl ?_
    have k21 : ms_is E (ms_at E o 20) 13 := ms_wt hE ho rfl (by decide)
    have n21 : ms_N E (ms_at E o 20) = 36 := ms_wl hE ho (by decide) (by decide) rfl
    refine a_bipush (v := 12) C dX11_result_24 (by decide) rfl ?_
    refine a_iload_n C dX11_result_26 rfl 1 rfl rfl ?_
    refine a_imul C dX11_result_27 rfl ?_
    refine a_iload_n C dX11_result_28 rfl 2 rfl rfl ?_
    refine a_iadd C dX11_result_29 rfl ?_
    obtain ⟨q30, h⟩ := h
    refine a_iald C dX11_result_30 k21 n21 q30 rfl ?_
    exact a_iret C dX11_result_31 hr hlocks (Nat.le_of_ble_eq_true rfl) (Nat.le_of_ble_eq_true rfl) h
  · replace h := h.2 hc
    refine a_iconst (v := 0) C dX11_result_14 (by decide) rfl ?_
    exact a_iret C dX11_result_15 hr hlocks (Nat.le_of_ble_eq_true rfl) (Nat.le_of_ble_eq_true rfl) h

/-! CensusWalkModel.arrival(II)I -/
theorem pd_X11_arrival : (⟨"CensusWalkModel", "arrival", "(II)I"⟩ : MethodName).cls = "CensusWalkModel" ∧ (⟨"CensusWalkModel", "arrival", "(II)I"⟩ : MethodName).cls ≠ "java/lang/invoke/MethodHandle" ∧ (⟨"CensusWalkModel", "arrival", "(II)I"⟩ : MethodName).cls ≠ "java/lang/invoke/VarHandle" ∧ (parseMethodDescriptor (⟨"CensusWalkModel", "arrival", "(II)I"⟩ : MethodName).desc).map (fun d => d.parameters.length) = some 2 := by decide +kernel
def wp_X11_arrival (E : ms_En) (u : ms_St) (o : Nat) (a1 : Int32) (a2 : Int32) (post : Int32 → ms_St → Prop) : Prop := wp_X11_noPlanned E (ms_sI u o 0 0) o a1 a2 (fun r8 u8 => (r8 = 0 → wp_X11_simulate E u8 o (fun u17 => vp_in ((12 * a1) + a2) 36 ∧ (post (ms_I u17 (ms_at E o 21) (Int32.toNatClampNeg ((12 * a1) + a2))) u17))) ∧ (¬ r8 = 0 → post 0 u8))
set_option maxHeartbeats 4000000 in
set_option maxRecDepth 100000 in
theorem c_X11_arrival (l : Launch) (G : va_G) (cy : Nat → ClassId) (L : Nat → Nat) (E : ms_En) (hE : ms_WT E) (u : ms_St) (o : Nat) (a1 : Int32) (a2 : Int32) (ho : ms_is E o 11) (post : Int32 → ms_St → Prop) (h : wp_X11_arrival E u o a1 a2 post) : ms_MetI l ⟨"CensusWalkModel", "arrival", "(II)I"⟩ (Cond.code ⟨"CensusWalkModel", "arrival", "(II)I"⟩ prog_13_method_66_code 3 (some .int) :: lw_g) ({ frames := 9, cells := 0, slots := 0, locals := 199 } : Room) G cy L E [.ref (L o), .int a1, .int a2] u post 0 0 := by
  refine ms_enterI (lv := [(0, .ref (L o)), (1, .int a1), (2, .int a2)]) (by decide) (Nat.le_of_ble_eq_true rfl) rfl ?_
  intro p e s m args below meth c A C hr hlocks
  unfold wp_X11_arrival at h
  refine a_aload_n C dX11_arrival_0 rfl 0 rfl rfl ?_
  refine a_iconst (v := 0) C dX11_arrival_1 (by decide) rfl ?_
  refine s_11_0 C dX11_arrival_2 ho kw_5_222 rfl ?_
  refine a_aload_n C dX11_arrival_5 rfl 0 rfl rfl ?_
  refine a_iload_n C dX11_arrival_6 rfl 1 rfl rfl ?_
  refine a_iload_n C dX11_arrival_7 rfl 2 rfl rfl ?_
  refine a_callVI C (c_X11_noPlanned l G cy L E hE (ms_sI u o 0 0) o a1 a2 ho _ h) ho rfl (by decide) kw_7_80 kw_7_82 kp_73 kw_1_12 kw_7_83 rfl rfl pd_X11_noPlanned ⟨(Nat.le_of_ble_eq_true rfl), (Nat.le_of_ble_eq_true rfl)⟩ dX11_arrival_8 rfl (Nat.le_of_ble_eq_true rfl) ⟨(Nat.le_of_ble_eq_true rfl), (Nat.le_of_ble_eq_true rfl)⟩ rfl (fun r8 u8 h => ?_)
  refine a_if_eq (tgt := 16) C dX11_arrival_11 (by decide) rfl (fun hc => ?_) (fun hc => ?_)
  · replace h := h.1 hc
    refine a_aload_n C dX11_arrival_16 rfl 0 rfl rfl ?_
    refine a_callVV C (c_X11_simulate l G cy L E hE u8 o ho _ h) ho rfl (by decide) kw_7_88 kw_7_90 kp_74 kw_1_12 kw_7_91 rfl rfl pd_X11_simulate ⟨(Nat.le_of_ble_eq_true rfl), (Nat.le_of_ble_eq_true rfl)⟩ dX11_arrival_17 rfl (Nat.le_of_ble_eq_true rfl) ⟨(Nat.le_of_ble_eq_true rfl), (Nat.le_of_ble_eq_true rfl)⟩ rfl (fun u17 h => ?_)
    refine a_aload_n C dX11_arrival_20 rfl 0 rfl rfl ?_
    refine g_11_21 C hE dX11_arrival_21 ho kw_6_3 rfl ?_
    have k21 : ms_is E (ms_at E o 21) 13 := ms_wt hE ho rfl (by decide)
    have n21 : ms_N E (ms_at E o 21) = 36 := ms_wl hE ho (by decide) (by decide) rfl
    refine a_bipush (v := 12) C dX11_arrival_24 (by decide) rfl ?_
    refine a_iload_n C dX11_arrival_26 rfl 1 rfl rfl ?_
    refine a_imul C dX11_arrival_27 rfl ?_
    refine a_iload_n C dX11_arrival_28 rfl 2 rfl rfl ?_
    refine a_iadd C dX11_arrival_29 rfl ?_
    obtain ⟨q30, h⟩ := h
    refine a_iald C dX11_arrival_30 k21 n21 q30 rfl ?_
    exact a_iret C dX11_arrival_31 hr hlocks (Nat.le_of_ble_eq_true rfl) (Nat.le_of_ble_eq_true rfl) h
  · replace h := h.2 hc
    refine a_iconst (v := 0) C dX11_arrival_14 (by decide) rfl ?_
    exact a_iret C dX11_arrival_15 hr hlocks (Nat.le_of_ble_eq_true rfl) (Nat.le_of_ble_eq_true rfl) h

/-! CensusWalkModel.finish(I)I -/
theorem pd_X11_finish : (⟨"CensusWalkModel", "finish", "(I)I"⟩ : MethodName).cls = "CensusWalkModel" ∧ (⟨"CensusWalkModel", "finish", "(I)I"⟩ : MethodName).cls ≠ "java/lang/invoke/MethodHandle" ∧ (⟨"CensusWalkModel", "finish", "(I)I"⟩ : MethodName).cls ≠ "java/lang/invoke/VarHandle" ∧ (parseMethodDescriptor (⟨"CensusWalkModel", "finish", "(I)I"⟩ : MethodName).desc).map (fun d => d.parameters.length) = some 1 := by decide +kernel
def wp_X11_finish (E : ms_En) (u : ms_St) (o : Nat) (a1 : Int32) (post : Int32 → ms_St → Prop) : Prop := wp_X11_noWalker E (ms_sI u o 0 0) o a1 (fun r7 u7 => (r7 = 0 → wp_X11_simulate E u7 o (fun u16 => vp_in a1 3 ∧ (post (ms_I u16 (ms_at E o 17) (Int32.toNatClampNeg a1)) u16))) ∧ (¬ r7 = 0 → post 0 u7))
set_option maxHeartbeats 4000000 in
set_option maxRecDepth 100000 in
theorem c_X11_finish (l : Launch) (G : va_G) (cy : Nat → ClassId) (L : Nat → Nat) (E : ms_En) (hE : ms_WT E) (u : ms_St) (o : Nat) (a1 : Int32) (ho : ms_is E o 11) (post : Int32 → ms_St → Prop) (h : wp_X11_finish E u o a1 post) : ms_MetI l ⟨"CensusWalkModel", "finish", "(I)I"⟩ (Cond.code ⟨"CensusWalkModel", "finish", "(I)I"⟩ prog_13_method_67_code 2 (some .int) :: lw_g) ({ frames := 9, cells := 0, slots := 0, locals := 199 } : Room) G cy L E [.ref (L o), .int a1] u post 0 0 := by
  refine ms_enterI (lv := [(0, .ref (L o)), (1, .int a1)]) (by decide) (Nat.le_of_ble_eq_true rfl) rfl ?_
  intro p e s m args below meth c A C hr hlocks
  unfold wp_X11_finish at h
  refine a_aload_n C dX11_finish_0 rfl 0 rfl rfl ?_
  refine a_iconst (v := 0) C dX11_finish_1 (by decide) rfl ?_
  refine s_11_0 C dX11_finish_2 ho kw_5_222 rfl ?_
  refine a_aload_n C dX11_finish_5 rfl 0 rfl rfl ?_
  refine a_iload_n C dX11_finish_6 rfl 1 rfl rfl ?_
  refine a_callVI C (c_X11_noWalker l G cy L E hE (ms_sI u o 0 0) o a1 ho _ h) ho rfl (by decide) kw_7_72 kw_7_74 kp_72 kw_1_12 kw_7_75 rfl rfl pd_X11_noWalker ⟨(Nat.le_of_ble_eq_true rfl), (Nat.le_of_ble_eq_true rfl)⟩ dX11_finish_7 rfl (Nat.le_of_ble_eq_true rfl) ⟨(Nat.le_of_ble_eq_true rfl), (Nat.le_of_ble_eq_true rfl)⟩ rfl (fun r7 u7 h => ?_)
  refine a_if_eq (tgt := 15) C dX11_finish_10 (by decide) rfl (fun hc => ?_) (fun hc => ?_)
  · replace h := h.1 hc
    refine a_aload_n C dX11_finish_15 rfl 0 rfl rfl ?_
    refine a_callVV C (c_X11_simulate l G cy L E hE u7 o ho _ h) ho rfl (by decide) kw_7_88 kw_7_90 kp_74 kw_1_12 kw_7_91 rfl rfl pd_X11_simulate ⟨(Nat.le_of_ble_eq_true rfl), (Nat.le_of_ble_eq_true rfl)⟩ dX11_finish_16 rfl (Nat.le_of_ble_eq_true rfl) ⟨(Nat.le_of_ble_eq_true rfl), (Nat.le_of_ble_eq_true rfl)⟩ rfl (fun u16 h => ?_)
    refine a_aload_n C dX11_finish_19 rfl 0 rfl rfl ?_
    refine g_11_17 C hE dX11_finish_20 ho kw_5_239 rfl ?_
    have k20 : ms_is E (ms_at E o 17) 13 := ms_wt hE ho rfl (by decide)
    have n20 : ms_N E (ms_at E o 17) = 3 := ms_wl hE ho (by decide) (by decide) rfl
    refine a_iload_n C dX11_finish_23 rfl 1 rfl rfl ?_
    obtain ⟨q24, h⟩ := h
    refine a_iald C dX11_finish_24 k20 n20 q24 rfl ?_
    exact a_iret C dX11_finish_25 hr hlocks (Nat.le_of_ble_eq_true rfl) (Nat.le_of_ble_eq_true rfl) h
  · replace h := h.2 hc
    refine a_iconst (v := 0) C dX11_finish_13 (by decide) rfl ?_
    exact a_iret C dX11_finish_14 hr hlocks (Nat.le_of_ble_eq_true rfl) (Nat.le_of_ble_eq_true rfl) h

/-! CensusWalkModel.finishAll()I -/
theorem pd_X11_finishAll : (⟨"CensusWalkModel", "finishAll", "()I"⟩ : MethodName).cls = "CensusWalkModel" ∧ (⟨"CensusWalkModel", "finishAll", "()I"⟩ : MethodName).cls ≠ "java/lang/invoke/MethodHandle" ∧ (⟨"CensusWalkModel", "finishAll", "()I"⟩ : MethodName).cls ≠ "java/lang/invoke/VarHandle" ∧ (parseMethodDescriptor (⟨"CensusWalkModel", "finishAll", "()I"⟩ : MethodName).desc).map (fun d => d.parameters.length) = some 0 := by decide +kernel
def wp_X11_finishAll_54 (E : ms_En) (o : Nat) (post : Int32 → ms_St → Prop) (k13 : ms_St → Int32 → Int32 → Prop) (u : ms_St) (x1 : Int32) (x2 : Int32) : Prop := k13 u x1 (x2 + 1)
set_option maxHeartbeats 4000000 in
set_option maxRecDepth 100000 in
theorem c_X11_finishAll_54 {p : Program} {l : Launch} {e : Env} {s : State} {m : MethodId} {args : Array Value} {below : List Frame} {meth : Method} {c : Code} {G : va_G} {cy : Nat → ClassId} {A : Nat → Prop} {L : Nat → Nat} {E : ms_En} (C : ms_Cx p m c cX11_finishAll 3 s args (Cond.code ⟨"CensusWalkModel", "finishAll", "()I"⟩ prog_13_method_68_code 3 (some .int)) "CensusWalkModel" G cy A) (hr : meth.sig.returnType = (some .int)) (hlocks : meth.locks = false) (hE : ms_WT E) {o : Nat} {post : Int32 → ms_St → Prop} {k13 : ms_St → Int32 → Int32 → Prop} (ho : ms_is E o 11) (hk13 : ∀ (u : ms_St) (x1 : Int32) (x2 : Int32), k13 u x1 x2 → ms_At p l e ({ frames := 9, cells := 0, slots := 0, locals := 199 } : Room) s m args below meth c 3 G cy A L 0 0 (ms_QI below args s G cy L E A post 0 0) E u 13 [(0, .ref (L o)), (1, .int x1), (2, .int x2)] []) (u : ms_St) (x1 : Int32) (x2 : Int32)  (h : wp_X11_finishAll_54 E o post k13 u x1 x2) : ms_At p l e ({ frames := 9, cells := 0, slots := 0, locals := 199 } : Room) s m args below meth c 3 G cy A L 0 0 (ms_QI below args s G cy L E A post 0 0) E u 54 [(0, .ref (L o)), (1, .int x1), (2, .int x2)] [] := by
  unfold wp_X11_finishAll_54 at h
  refine a_iinc (lv' := [(0, .ref (L o)), (1, .int x1), (2, .int (x2 + 1))]) (v := (x2 + 1)) C dX11_finishAll_54 2 rfl (congrArg (fun z => x2 + z) (by decide)) (by decide) [1, 2, 0] rfl rfl ?_
  refine a_goto (tgt := 13) C dX11_finishAll_57 (by decide) ?_
  exact hk13 u x1 (x2 + 1)  h
def wp_X11_finishAll_13 (E : ms_En) (o : Nat) (post : Int32 → ms_St → Prop)  : Nat → ms_St → Int32 → Int32 → Prop
  | 0 => fun _ _ _ => False
  | n + 1 => fun u x1 x2 => vp_in 3 1613 ∧ (((ms_I u (ms_at E o 8) (Int32.toNatClampNeg 3)) ≤ x2 → post x1 u) ∧ (¬ (ms_I u (ms_at E o 8) (Int32.toNatClampNeg 3)) ≤ x2 → wp_X11_walker E u x2 (fun r28 u28 => vp_in (r28 + 2) 1613 ∧ (((ms_I u28 (ms_at E o 8) (Int32.toNatClampNeg (r28 + 2))) ≤ 0 → wp_X11_finishAll_54 E o post (wp_X11_finishAll_13 E o post n) u28 x1 x2) ∧ (¬ (ms_I u28 (ms_at E o 8) (Int32.toNatClampNeg (r28 + 2))) ≤ 0 → vp_in x2 3 ∧ (((ms_I u28 (ms_at E o 17) (Int32.toNatClampNeg x2)) ≤ x1 → wp_X11_finishAll_54 E o post (wp_X11_finishAll_13 E o post n) u28 x1 x2) ∧ (¬ (ms_I u28 (ms_at E o 17) (Int32.toNatClampNeg x2)) ≤ x1 → vp_in x2 3 ∧ (∀ v53 : Int32, v53 = (ms_I u28 (ms_at E o 17) (Int32.toNatClampNeg x2)) → (wp_X11_finishAll_54 E o post (wp_X11_finishAll_13 E o post n) u28 v53 x2)))))))))
set_option maxHeartbeats 4000000 in
set_option maxRecDepth 100000 in
theorem c_X11_finishAll_13 {p : Program} {l : Launch} {e : Env} {s : State} {m : MethodId} {args : Array Value} {below : List Frame} {meth : Method} {c : Code} {G : va_G} {cy : Nat → ClassId} {A : Nat → Prop} {L : Nat → Nat} {E : ms_En} (C : ms_Cx p m c cX11_finishAll 3 s args (Cond.code ⟨"CensusWalkModel", "finishAll", "()I"⟩ prog_13_method_68_code 3 (some .int)) "CensusWalkModel" G cy A) (hr : meth.sig.returnType = (some .int)) (hlocks : meth.locks = false) (hE : ms_WT E) {o : Nat} {post : Int32 → ms_St → Prop}  (ho : ms_is E o 11)  : ∀ (n : Nat) (u : ms_St) (x1 : Int32) (x2 : Int32), wp_X11_finishAll_13 E o post n u x1 x2 → ms_At p l e ({ frames := 9, cells := 0, slots := 0, locals := 199 } : Room) s m args below meth c 3 G cy A L 0 0 (ms_QI below args s G cy L E A post 0 0) E u 13 [(0, .ref (L o)), (1, .int x1), (2, .int x2)] [] := by
  intro n
  induction n with
  | zero =>
    intro u x1 x2  h
    exact absurd h id
  | succ n ih =>
    intro u x1 x2  h
    unfold wp_X11_finishAll_13 at h
    refine a_iload_n C dX11_finishAll_13 rfl 2 rfl rfl ?_
    refine a_aload_n C dX11_finishAll_14 rfl 0 rfl rfl ?_
    refine g_11_8 C hE dX11_finishAll_15 ho kw_5_230 rfl ?_
    have k15 : ms_is E (ms_at E o 8) 13 := ms_wt hE ho rfl (by decide)
    have n15 : ms_N E (ms_at E o 8) = 1613 := ms_wl hE ho (by decide) (by decide) rfl
    refine a_iconst (v := 3) C dX11_finishAll_18 (by decide) rfl ?_
    obtain ⟨q19, h⟩ := h
    refine a_iald C dX11_finishAll_19 k15 n15 q19 rfl ?_
    refine a_icmp_ge (tgt := 60) C dX11_finishAll_20 (by decide) rfl (fun hc => ?_) (fun hc => ?_)
    · replace h := h.1 hc
      refine a_iload_n C dX11_finishAll_60 rfl 1 rfl rfl ?_
      exact a_iret C dX11_finishAll_61 hr hlocks (Nat.le_of_ble_eq_true rfl) (Nat.le_of_ble_eq_true rfl) h
    · replace h := h.2 hc
      refine a_aload_n C dX11_finishAll_23 rfl 0 rfl rfl ?_
      refine g_11_8 C hE dX11_finishAll_24 ho kw_5_230 rfl ?_
      refine a_iload_n C dX11_finishAll_27 rfl 2 rfl rfl ?_
      refine a_callSI C (c_X11_walker l G cy L E hE u x2  _ h) kw_6_169 kw_6_170 kw_1_12 kw_6_171 rfl rfl pd_X11_walker ⟨(Nat.le_of_ble_eq_true rfl), (Nat.le_of_ble_eq_true rfl)⟩ dX11_finishAll_28 rfl (Nat.le_of_ble_eq_true rfl) ⟨(Nat.le_of_ble_eq_true rfl), (Nat.le_of_ble_eq_true rfl)⟩ rfl (fun r28 u28 h => ?_)
      refine a_iconst (v := 2) C dX11_finishAll_31 (by decide) rfl ?_
      refine a_iadd C dX11_finishAll_32 rfl ?_
      obtain ⟨q33, h⟩ := h
      refine a_iald C dX11_finishAll_33 k15 n15 q33 rfl ?_
      refine a_if_le (tgt := 54) C dX11_finishAll_34 (by decide) rfl (fun hc => ?_) (fun hc => ?_)
      · replace h := h.1 hc
        exact c_X11_finishAll_54 C hr hlocks hE ho ih u28 x1 x2  h
      · replace h := h.2 hc
        refine a_aload_n C dX11_finishAll_37 rfl 0 rfl rfl ?_
        refine g_11_17 C hE dX11_finishAll_38 ho kw_5_239 rfl ?_
        have k38 : ms_is E (ms_at E o 17) 13 := ms_wt hE ho rfl (by decide)
        have n38 : ms_N E (ms_at E o 17) = 3 := ms_wl hE ho (by decide) (by decide) rfl
        refine a_iload_n C dX11_finishAll_41 rfl 2 rfl rfl ?_
        obtain ⟨q42, h⟩ := h
        refine a_iald C dX11_finishAll_42 k38 n38 q42 rfl ?_
        refine a_iload_n C dX11_finishAll_43 rfl 1 rfl rfl ?_
        refine a_icmp_le (tgt := 54) C dX11_finishAll_44 (by decide) rfl (fun hc => ?_) (fun hc => ?_)
        · replace h := h.1 hc
          exact c_X11_finishAll_54 C hr hlocks hE ho ih u28 x1 x2  h
        · replace h := h.2 hc
          refine a_aload_n C dX11_finishAll_47 rfl 0 rfl rfl ?_
          refine g_11_17 C hE dX11_finishAll_48 ho kw_5_239 rfl ?_
          refine a_iload_n C dX11_finishAll_51 rfl 2 rfl rfl ?_
          obtain ⟨q52, h⟩ := h
          refine a_iald C dX11_finishAll_52 k38 n38 q52 rfl ?_
          refine a_nmI (fun v53 e53 => ?_)
          replace h := h v53 e53
          refine a_istore_n (lv' := [(0, .ref (L o)), (1, .int v53), (2, .int x2)]) C dX11_finishAll_53 rfl (by decide) [1, 0, 2] rfl rfl ?_
          exact c_X11_finishAll_54 C hr hlocks hE ho ih u28 v53 x2  h
def wp_X11_finishAll (E : ms_En) (u : ms_St) (o : Nat) (post : Int32 → ms_St → Prop) : Prop := wp_X11_simulate E (ms_sI u o 0 0) o (fun u6 => ∃ n13, wp_X11_finishAll_13 E o post n13 u6 0 0)
set_option maxHeartbeats 4000000 in
set_option maxRecDepth 100000 in
theorem c_X11_finishAll (l : Launch) (G : va_G) (cy : Nat → ClassId) (L : Nat → Nat) (E : ms_En) (hE : ms_WT E) (u : ms_St) (o : Nat) (ho : ms_is E o 11) (post : Int32 → ms_St → Prop) (h : wp_X11_finishAll E u o post) : ms_MetI l ⟨"CensusWalkModel", "finishAll", "()I"⟩ (Cond.code ⟨"CensusWalkModel", "finishAll", "()I"⟩ prog_13_method_68_code 3 (some .int) :: lw_g) ({ frames := 9, cells := 0, slots := 0, locals := 199 } : Room) G cy L E [.ref (L o)] u post 0 0 := by
  refine ms_enterI (lv := [(0, .ref (L o))]) (by decide) (Nat.le_of_ble_eq_true rfl) rfl ?_
  intro p e s m args below meth c A C hr hlocks
  unfold wp_X11_finishAll at h
  refine a_aload_n C dX11_finishAll_0 rfl 0 rfl rfl ?_
  refine a_iconst (v := 0) C dX11_finishAll_1 (by decide) rfl ?_
  refine s_11_0 C dX11_finishAll_2 ho kw_5_222 rfl ?_
  refine a_aload_n C dX11_finishAll_5 rfl 0 rfl rfl ?_
  refine a_callVV C (c_X11_simulate l G cy L E hE (ms_sI u o 0 0) o ho _ h) ho rfl (by decide) kw_7_88 kw_7_90 kp_74 kw_1_12 kw_7_91 rfl rfl pd_X11_simulate ⟨(Nat.le_of_ble_eq_true rfl), (Nat.le_of_ble_eq_true rfl)⟩ dX11_finishAll_6 rfl (Nat.le_of_ble_eq_true rfl) ⟨(Nat.le_of_ble_eq_true rfl), (Nat.le_of_ble_eq_true rfl)⟩ rfl (fun u6 h => ?_)
  refine a_iconst (v := 0) C dX11_finishAll_9 (by decide) rfl ?_
  refine a_istore_n (lv' := [(0, .ref (L o)), (1, .int 0)]) C dX11_finishAll_10 rfl (by decide) [1, 0] rfl rfl ?_
  refine a_iconst (v := 0) C dX11_finishAll_11 (by decide) rfl ?_
  refine a_istore_n (lv' := [(0, .ref (L o)), (1, .int 0), (2, .int 0)]) C dX11_finishAll_12 rfl (by decide) [1, 2, 0] rfl rfl ?_
  obtain ⟨n9, h⟩ := h
  exact c_X11_finishAll_13 C hr hlocks hE ho  n9 u6 0 0  h

/-! CensusWalkModel.counted()I -/
theorem pd_X11_counted : (⟨"CensusWalkModel", "counted", "()I"⟩ : MethodName).cls = "CensusWalkModel" ∧ (⟨"CensusWalkModel", "counted", "()I"⟩ : MethodName).cls ≠ "java/lang/invoke/MethodHandle" ∧ (⟨"CensusWalkModel", "counted", "()I"⟩ : MethodName).cls ≠ "java/lang/invoke/VarHandle" ∧ (parseMethodDescriptor (⟨"CensusWalkModel", "counted", "()I"⟩ : MethodName).desc).map (fun d => d.parameters.length) = some 0 := by decide +kernel
def wp_X11_counted (E : ms_En) (u : ms_St) (o : Nat) (post : Int32 → ms_St → Prop) : Prop := wp_X11_simulate E (ms_sI u o 0 0) o (fun u6 => post (ms_I u6 o 24) u6)
set_option maxHeartbeats 4000000 in
set_option maxRecDepth 100000 in
theorem c_X11_counted (l : Launch) (G : va_G) (cy : Nat → ClassId) (L : Nat → Nat) (E : ms_En) (hE : ms_WT E) (u : ms_St) (o : Nat) (ho : ms_is E o 11) (post : Int32 → ms_St → Prop) (h : wp_X11_counted E u o post) : ms_MetI l ⟨"CensusWalkModel", "counted", "()I"⟩ (Cond.code ⟨"CensusWalkModel", "counted", "()I"⟩ prog_13_method_69_code 1 (some .int) :: lw_g) ({ frames := 9, cells := 0, slots := 0, locals := 199 } : Room) G cy L E [.ref (L o)] u post 0 0 := by
  refine ms_enterI (lv := [(0, .ref (L o))]) (by decide) (Nat.le_of_ble_eq_true rfl) rfl ?_
  intro p e s m args below meth c A C hr hlocks
  unfold wp_X11_counted at h
  refine a_aload_n C dX11_counted_0 rfl 0 rfl rfl ?_
  refine a_iconst (v := 0) C dX11_counted_1 (by decide) rfl ?_
  refine s_11_0 C dX11_counted_2 ho kw_5_222 rfl ?_
  refine a_aload_n C dX11_counted_5 rfl 0 rfl rfl ?_
  refine a_callVV C (c_X11_simulate l G cy L E hE (ms_sI u o 0 0) o ho _ h) ho rfl (by decide) kw_7_88 kw_7_90 kp_74 kw_1_12 kw_7_91 rfl rfl pd_X11_simulate ⟨(Nat.le_of_ble_eq_true rfl), (Nat.le_of_ble_eq_true rfl)⟩ dX11_counted_6 rfl (Nat.le_of_ble_eq_true rfl) ⟨(Nat.le_of_ble_eq_true rfl), (Nat.le_of_ble_eq_true rfl)⟩ rfl (fun u6 h => ?_)
  refine a_aload_n C dX11_counted_9 rfl 0 rfl rfl ?_
  refine g_11_24 C dX11_counted_10 ho kw_6_6 rfl ?_
  exact a_iret C dX11_counted_13 hr hlocks (Nat.le_of_ble_eq_true rfl) (Nat.le_of_ble_eq_true rfl) h

/-! CensusWalkModel.persons()I -/
theorem pd_X11_persons : (⟨"CensusWalkModel", "persons", "()I"⟩ : MethodName).cls = "CensusWalkModel" ∧ (⟨"CensusWalkModel", "persons", "()I"⟩ : MethodName).cls ≠ "java/lang/invoke/MethodHandle" ∧ (⟨"CensusWalkModel", "persons", "()I"⟩ : MethodName).cls ≠ "java/lang/invoke/VarHandle" ∧ (parseMethodDescriptor (⟨"CensusWalkModel", "persons", "()I"⟩ : MethodName).desc).map (fun d => d.parameters.length) = some 0 := by decide +kernel
def wp_X11_persons_51 (E : ms_En) (o : Nat) (post : Int32 → ms_St → Prop) (k13 : ms_St → Int32 → Int32 → Prop) (u : ms_St) (x2 : Int32) (z0 : Int32) (z1 : Int32) : Prop := ∀ v52 : Int32, v52 = (z1 + z0) → (k13 u v52 (x2 + 1))
set_option maxHeartbeats 4000000 in
set_option maxRecDepth 100000 in
theorem c_X11_persons_51 {p : Program} {l : Launch} {e : Env} {s : State} {m : MethodId} {args : Array Value} {below : List Frame} {meth : Method} {c : Code} {G : va_G} {cy : Nat → ClassId} {A : Nat → Prop} {L : Nat → Nat} {E : ms_En} (C : ms_Cx p m c cX11_persons 3 s args (Cond.code ⟨"CensusWalkModel", "persons", "()I"⟩ prog_13_method_70_code 3 (some .int)) "CensusWalkModel" G cy A) (hr : meth.sig.returnType = (some .int)) (hlocks : meth.locks = false) (hE : ms_WT E) {o : Nat} {post : Int32 → ms_St → Prop} {k13 : ms_St → Int32 → Int32 → Prop} (ho : ms_is E o 11) (hk13 : ∀ (u : ms_St) (x1 : Int32) (x2 : Int32), k13 u x1 x2 → ms_At p l e ({ frames := 9, cells := 0, slots := 0, locals := 199 } : Room) s m args below meth c 3 G cy A L 0 0 (ms_QI below args s G cy L E A post 0 0) E u 13 [(0, .ref (L o)), (1, .int x1), (2, .int x2)] []) (u : ms_St) (x2 : Int32) (z0 : Int32) (z1 : Int32)  (h : wp_X11_persons_51 E o post k13 u x2 z0 z1) : ms_At p l e ({ frames := 9, cells := 0, slots := 0, locals := 199 } : Room) s m args below meth c 3 G cy A L 0 0 (ms_QI below args s G cy L E A post 0 0) E u 51 [(0, .ref (L o)), (2, .int x2)] [.int z0, .int z1] := by
  unfold wp_X11_persons_51 at h
  refine a_iadd C dX11_persons_51 rfl ?_
  refine a_nmI (fun v52 e52 => ?_)
  replace h := h v52 e52
  refine a_istore_n (lv' := [(0, .ref (L o)), (1, .int v52), (2, .int x2)]) C dX11_persons_52 rfl (by decide) [1, 0, 2] rfl rfl ?_
  refine a_iinc (lv' := [(0, .ref (L o)), (1, .int v52), (2, .int (x2 + 1))]) (v := (x2 + 1)) C dX11_persons_53 2 rfl (congrArg (fun z => x2 + z) (by decide)) (by decide) [1, 2, 0] rfl rfl ?_
  refine a_goto (tgt := 13) C dX11_persons_56 (by decide) ?_
  exact hk13 u v52 (x2 + 1)  h
def wp_X11_persons_13 (E : ms_En) (o : Nat) (post : Int32 → ms_St → Prop)  : Nat → ms_St → Int32 → Int32 → Prop
  | 0 => fun _ _ _ => False
  | n + 1 => fun u x1 x2 => vp_in 2 1613 ∧ (((ms_I u (ms_at E o 8) (Int32.toNatClampNeg 2)) ≤ x2 → post x1 u) ∧ (¬ (ms_I u (ms_at E o 8) (Int32.toNatClampNeg 2)) ≤ x2 → ((((ms_I u o 24) >>> (x2 &&& 31)) &&& 1) = 1 → wp_X11_house E u x2 (fun r41 u41 => vp_in (r41 + 3) 1613 ∧ (wp_X11_persons_51 E o post (wp_X11_persons_13 E o post n) u41 x2 (ms_I u41 (ms_at E o 8) (Int32.toNatClampNeg (r41 + 3))) x1))) ∧ (¬ (((ms_I u o 24) >>> (x2 &&& 31)) &&& 1) = 1 → wp_X11_persons_51 E o post (wp_X11_persons_13 E o post n) u x2 0 x1)))
set_option maxHeartbeats 4000000 in
set_option maxRecDepth 100000 in
theorem c_X11_persons_13 {p : Program} {l : Launch} {e : Env} {s : State} {m : MethodId} {args : Array Value} {below : List Frame} {meth : Method} {c : Code} {G : va_G} {cy : Nat → ClassId} {A : Nat → Prop} {L : Nat → Nat} {E : ms_En} (C : ms_Cx p m c cX11_persons 3 s args (Cond.code ⟨"CensusWalkModel", "persons", "()I"⟩ prog_13_method_70_code 3 (some .int)) "CensusWalkModel" G cy A) (hr : meth.sig.returnType = (some .int)) (hlocks : meth.locks = false) (hE : ms_WT E) {o : Nat} {post : Int32 → ms_St → Prop}  (ho : ms_is E o 11)  : ∀ (n : Nat) (u : ms_St) (x1 : Int32) (x2 : Int32), wp_X11_persons_13 E o post n u x1 x2 → ms_At p l e ({ frames := 9, cells := 0, slots := 0, locals := 199 } : Room) s m args below meth c 3 G cy A L 0 0 (ms_QI below args s G cy L E A post 0 0) E u 13 [(0, .ref (L o)), (1, .int x1), (2, .int x2)] [] := by
  intro n
  induction n with
  | zero =>
    intro u x1 x2  h
    exact absurd h id
  | succ n ih =>
    intro u x1 x2  h
    unfold wp_X11_persons_13 at h
    refine a_iload_n C dX11_persons_13 rfl 2 rfl rfl ?_
    refine a_aload_n C dX11_persons_14 rfl 0 rfl rfl ?_
    refine g_11_8 C hE dX11_persons_15 ho kw_5_230 rfl ?_
    have k15 : ms_is E (ms_at E o 8) 13 := ms_wt hE ho rfl (by decide)
    have n15 : ms_N E (ms_at E o 8) = 1613 := ms_wl hE ho (by decide) (by decide) rfl
    refine a_iconst (v := 2) C dX11_persons_18 (by decide) rfl ?_
    obtain ⟨q19, h⟩ := h
    refine a_iald C dX11_persons_19 k15 n15 q19 rfl ?_
    refine a_icmp_ge (tgt := 59) C dX11_persons_20 (by decide) rfl (fun hc => ?_) (fun hc => ?_)
    · replace h := h.1 hc
      refine a_iload_n C dX11_persons_59 rfl 1 rfl rfl ?_
      exact a_iret C dX11_persons_60 hr hlocks (Nat.le_of_ble_eq_true rfl) (Nat.le_of_ble_eq_true rfl) h
    · replace h := h.2 hc
      refine a_iload_n C dX11_persons_23 rfl 1 rfl rfl ?_
      refine a_aload_n C dX11_persons_24 rfl 0 rfl rfl ?_
      refine g_11_24 C dX11_persons_25 ho kw_6_6 rfl ?_
      refine a_iload_n C dX11_persons_28 rfl 2 rfl rfl ?_
      refine a_ishr C dX11_persons_29 rfl ?_
      refine a_iconst (v := 1) C dX11_persons_30 (by decide) rfl ?_
      refine a_iand C dX11_persons_31 rfl ?_
      refine a_iconst (v := 1) C dX11_persons_32 (by decide) rfl ?_
      refine a_icmp_ne (tgt := 50) C dX11_persons_33 (by decide) rfl (fun hc => ?_) (fun hc => ?_)
      · replace h := h.2 hc
        refine a_iconst (v := 0) C dX11_persons_50 (by decide) rfl ?_
        refine a_sub (lv' := [(0, .ref (L o)), (2, .int x2)]) [0, 2] rfl ?_
        exact c_X11_persons_51 C hr hlocks hE ho ih u x2 0 x1  h
      · replace h := h.1 hc
        refine a_aload_n C dX11_persons_36 rfl 0 rfl rfl ?_
        refine g_11_8 C hE dX11_persons_37 ho kw_5_230 rfl ?_
        refine a_iload_n C dX11_persons_40 rfl 2 rfl rfl ?_
        refine a_callSI C (c_X11_house l G cy L E hE u x2  _ h) kw_6_160 kw_6_161 kw_1_12 kw_6_162 rfl rfl pd_X11_house ⟨(Nat.le_of_ble_eq_true rfl), (Nat.le_of_ble_eq_true rfl)⟩ dX11_persons_41 rfl (Nat.le_of_ble_eq_true rfl) ⟨(Nat.le_of_ble_eq_true rfl), (Nat.le_of_ble_eq_true rfl)⟩ rfl (fun r41 u41 h => ?_)
        refine a_iconst (v := 3) C dX11_persons_44 (by decide) rfl ?_
        refine a_iadd C dX11_persons_45 rfl ?_
        obtain ⟨q46, h⟩ := h
        refine a_iald C dX11_persons_46 k15 n15 q46 rfl ?_
        refine a_goto (tgt := 51) C dX11_persons_47 (by decide) ?_
        refine a_sub (lv' := [(0, .ref (L o)), (2, .int x2)]) [0, 2] rfl ?_
        exact c_X11_persons_51 C hr hlocks hE ho ih u41 x2 (ms_I u41 (ms_at E o 8) (Int32.toNatClampNeg (r41 + 3))) x1  h
def wp_X11_persons (E : ms_En) (u : ms_St) (o : Nat) (post : Int32 → ms_St → Prop) : Prop := wp_X11_simulate E (ms_sI u o 0 0) o (fun u6 => ∃ n13, wp_X11_persons_13 E o post n13 u6 0 0)
set_option maxHeartbeats 4000000 in
set_option maxRecDepth 100000 in
theorem c_X11_persons (l : Launch) (G : va_G) (cy : Nat → ClassId) (L : Nat → Nat) (E : ms_En) (hE : ms_WT E) (u : ms_St) (o : Nat) (ho : ms_is E o 11) (post : Int32 → ms_St → Prop) (h : wp_X11_persons E u o post) : ms_MetI l ⟨"CensusWalkModel", "persons", "()I"⟩ (Cond.code ⟨"CensusWalkModel", "persons", "()I"⟩ prog_13_method_70_code 3 (some .int) :: lw_g) ({ frames := 9, cells := 0, slots := 0, locals := 199 } : Room) G cy L E [.ref (L o)] u post 0 0 := by
  refine ms_enterI (lv := [(0, .ref (L o))]) (by decide) (Nat.le_of_ble_eq_true rfl) rfl ?_
  intro p e s m args below meth c A C hr hlocks
  unfold wp_X11_persons at h
  refine a_aload_n C dX11_persons_0 rfl 0 rfl rfl ?_
  refine a_iconst (v := 0) C dX11_persons_1 (by decide) rfl ?_
  refine s_11_0 C dX11_persons_2 ho kw_5_222 rfl ?_
  refine a_aload_n C dX11_persons_5 rfl 0 rfl rfl ?_
  refine a_callVV C (c_X11_simulate l G cy L E hE (ms_sI u o 0 0) o ho _ h) ho rfl (by decide) kw_7_88 kw_7_90 kp_74 kw_1_12 kw_7_91 rfl rfl pd_X11_simulate ⟨(Nat.le_of_ble_eq_true rfl), (Nat.le_of_ble_eq_true rfl)⟩ dX11_persons_6 rfl (Nat.le_of_ble_eq_true rfl) ⟨(Nat.le_of_ble_eq_true rfl), (Nat.le_of_ble_eq_true rfl)⟩ rfl (fun u6 h => ?_)
  refine a_iconst (v := 0) C dX11_persons_9 (by decide) rfl ?_
  refine a_istore_n (lv' := [(0, .ref (L o)), (1, .int 0)]) C dX11_persons_10 rfl (by decide) [1, 0] rfl rfl ?_
  refine a_iconst (v := 0) C dX11_persons_11 (by decide) rfl ?_
  refine a_istore_n (lv' := [(0, .ref (L o)), (1, .int 0), (2, .int 0)]) C dX11_persons_12 rfl (by decide) [1, 2, 0] rfl rfl ?_
  obtain ⟨n9, h⟩ := h
  exact c_X11_persons_13 C hr hlocks hE ho  n9 u6 0 0  h

/-! CensusWalkModel.calls(I)I -/
theorem pd_X11_calls : (⟨"CensusWalkModel", "calls", "(I)I"⟩ : MethodName).cls = "CensusWalkModel" ∧ (⟨"CensusWalkModel", "calls", "(I)I"⟩ : MethodName).cls ≠ "java/lang/invoke/MethodHandle" ∧ (⟨"CensusWalkModel", "calls", "(I)I"⟩ : MethodName).cls ≠ "java/lang/invoke/VarHandle" ∧ (parseMethodDescriptor (⟨"CensusWalkModel", "calls", "(I)I"⟩ : MethodName).desc).map (fun d => d.parameters.length) = some 1 := by decide +kernel
def wp_X11_calls (E : ms_En) (u : ms_St) (o : Nat) (a1 : Int32) (post : Int32 → ms_St → Prop) : Prop := wp_X11_noHouse E (ms_sI u o 0 0) o a1 (fun r7 u7 => (r7 = 0 → wp_X11_simulate E u7 o (fun u16 => vp_in a1 16 ∧ (post (ms_I u16 (ms_at E o 22) (Int32.toNatClampNeg a1)) u16))) ∧ (¬ r7 = 0 → post 0 u7))
set_option maxHeartbeats 4000000 in
set_option maxRecDepth 100000 in
theorem c_X11_calls (l : Launch) (G : va_G) (cy : Nat → ClassId) (L : Nat → Nat) (E : ms_En) (hE : ms_WT E) (u : ms_St) (o : Nat) (a1 : Int32) (ho : ms_is E o 11) (post : Int32 → ms_St → Prop) (h : wp_X11_calls E u o a1 post) : ms_MetI l ⟨"CensusWalkModel", "calls", "(I)I"⟩ (Cond.code ⟨"CensusWalkModel", "calls", "(I)I"⟩ prog_13_method_71_code 2 (some .int) :: lw_g) ({ frames := 9, cells := 0, slots := 0, locals := 199 } : Room) G cy L E [.ref (L o), .int a1] u post 0 0 := by
  refine ms_enterI (lv := [(0, .ref (L o)), (1, .int a1)]) (by decide) (Nat.le_of_ble_eq_true rfl) rfl ?_
  intro p e s m args below meth c A C hr hlocks
  unfold wp_X11_calls at h
  refine a_aload_n C dX11_calls_0 rfl 0 rfl rfl ?_
  refine a_iconst (v := 0) C dX11_calls_1 (by decide) rfl ?_
  refine s_11_0 C dX11_calls_2 ho kw_5_222 rfl ?_
  refine a_aload_n C dX11_calls_5 rfl 0 rfl rfl ?_
  refine a_iload_n C dX11_calls_6 rfl 1 rfl rfl ?_
  refine a_callVI C (c_X11_noHouse l G cy L E hE (ms_sI u o 0 0) o a1 ho _ h) ho rfl (by decide) kw_6_228 kw_6_230 kp_61 kw_1_12 kw_6_231 rfl rfl pd_X11_noHouse ⟨(Nat.le_of_ble_eq_true rfl), (Nat.le_of_ble_eq_true rfl)⟩ dX11_calls_7 rfl (Nat.le_of_ble_eq_true rfl) ⟨(Nat.le_of_ble_eq_true rfl), (Nat.le_of_ble_eq_true rfl)⟩ rfl (fun r7 u7 h => ?_)
  refine a_if_eq (tgt := 15) C dX11_calls_10 (by decide) rfl (fun hc => ?_) (fun hc => ?_)
  · replace h := h.1 hc
    refine a_aload_n C dX11_calls_15 rfl 0 rfl rfl ?_
    refine a_callVV C (c_X11_simulate l G cy L E hE u7 o ho _ h) ho rfl (by decide) kw_7_88 kw_7_90 kp_74 kw_1_12 kw_7_91 rfl rfl pd_X11_simulate ⟨(Nat.le_of_ble_eq_true rfl), (Nat.le_of_ble_eq_true rfl)⟩ dX11_calls_16 rfl (Nat.le_of_ble_eq_true rfl) ⟨(Nat.le_of_ble_eq_true rfl), (Nat.le_of_ble_eq_true rfl)⟩ rfl (fun u16 h => ?_)
    refine a_aload_n C dX11_calls_19 rfl 0 rfl rfl ?_
    refine g_11_22 C hE dX11_calls_20 ho kw_6_4 rfl ?_
    have k20 : ms_is E (ms_at E o 22) 13 := ms_wt hE ho rfl (by decide)
    have n20 : ms_N E (ms_at E o 22) = 16 := ms_wl hE ho (by decide) (by decide) rfl
    refine a_iload_n C dX11_calls_23 rfl 1 rfl rfl ?_
    obtain ⟨q24, h⟩ := h
    refine a_iald C dX11_calls_24 k20 n20 q24 rfl ?_
    exact a_iret C dX11_calls_25 hr hlocks (Nat.le_of_ble_eq_true rfl) (Nat.le_of_ble_eq_true rfl) h
  · replace h := h.2 hc
    refine a_iconst (v := 0) C dX11_calls_13 (by decide) rfl ?_
    exact a_iret C dX11_calls_14 hr hlocks (Nat.le_of_ble_eq_true rfl) (Nat.le_of_ble_eq_true rfl) h

/-! CensusWalkModel.size(I)I -/
theorem pd_X11_size : (⟨"CensusWalkModel", "size", "(I)I"⟩ : MethodName).cls ≠ "java/lang/invoke/MethodHandle" ∧ (⟨"CensusWalkModel", "size", "(I)I"⟩ : MethodName).cls ≠ "java/lang/invoke/VarHandle" ∧ (parseMethodDescriptor (⟨"CensusWalkModel", "size", "(I)I"⟩ : MethodName).desc).map (fun d => d.parameters.length) = some 1 := by decide +kernel
def wp_X11_size_4 (E : ms_En) (a0 : Int32) (post : Int32 → ms_St → Prop)  : Nat → ms_St → Int32 → Int32 → Prop
  | 0 => fun _ _ _ => False
  | n + 1 => fun u x1 x2 => (x2 ≤ 0 → post x1 u) ∧ (¬ x2 ≤ 0 → ∀ v13 : Int32, v13 = (x1 + (x2 - x2 / 2 * 2)) → (∀ v17 : Int32, v17 = (x2 / 2) → (wp_X11_size_4 E a0 post n u v13 v17)))
set_option maxHeartbeats 4000000 in
set_option maxRecDepth 100000 in
theorem c_X11_size_4 {p : Program} {l : Launch} {e : Env} {s : State} {m : MethodId} {args : Array Value} {below : List Frame} {meth : Method} {c : Code} {G : va_G} {cy : Nat → ClassId} {A : Nat → Prop} {L : Nat → Nat} {E : ms_En} (C : ms_Cx p m c cX11_size 3 s args (Cond.code ⟨"CensusWalkModel", "size", "(I)I"⟩ prog_13_method_72_code 3 (some .int)) "CensusWalkModel" G cy A) (hr : meth.sig.returnType = (some .int)) (hlocks : meth.locks = false) (hE : ms_WT E) {a0 : Int32} {post : Int32 → ms_St → Prop}    : ∀ (n : Nat) (u : ms_St) (x1 : Int32) (x2 : Int32), wp_X11_size_4 E a0 post n u x1 x2 → ms_At p l e ({ frames := 0, cells := 0, slots := 0, locals := 0 } : Room) s m args below meth c 3 G cy A L 0 0 (ms_QI below args s G cy L E A post 0 0) E u 4 [(1, .int x1), (2, .int x2)] [] := by
  intro n
  induction n with
  | zero =>
    intro u x1 x2  h
    exact absurd h id
  | succ n ih =>
    intro u x1 x2  h
    unfold wp_X11_size_4 at h
    refine a_iload_n C dX11_size_4 rfl 1 rfl rfl ?_
    refine a_if_le (tgt := 21) C dX11_size_5 (by decide) rfl (fun hc => ?_) (fun hc => ?_)
    · replace h := h.1 hc
      refine a_iload_n C dX11_size_21 rfl 0 rfl rfl ?_
      exact a_iret C dX11_size_22 hr hlocks (Nat.le_of_ble_eq_true rfl) (Nat.le_of_ble_eq_true rfl) h
    · replace h := h.2 hc
      refine a_iload_n C dX11_size_8 rfl 0 rfl rfl ?_
      refine a_iload_n C dX11_size_9 rfl 1 rfl rfl ?_
      refine a_iconst (v := 2) C dX11_size_10 (by decide) rfl ?_
      refine a_irem C dX11_size_11 (by decide) rfl ?_
      refine a_iadd C dX11_size_12 rfl ?_
      refine a_nmI (fun v13 e13 => ?_)
      replace h := h v13 e13
      refine a_istore_n (lv' := [(1, .int v13), (2, .int x2)]) C dX11_size_13 rfl (by decide) [0, 1] rfl rfl ?_
      refine a_iload_n C dX11_size_14 rfl 1 rfl rfl ?_
      refine a_iconst (v := 2) C dX11_size_15 (by decide) rfl ?_
      refine a_idiv C dX11_size_16 (by decide) rfl ?_
      refine a_nmI (fun v17 e17 => ?_)
      replace h := h v17 e17
      refine a_istore_n (lv' := [(1, .int v13), (2, .int v17)]) C dX11_size_17 rfl (by decide) [1, 0] rfl rfl ?_
      refine a_goto (tgt := 4) C dX11_size_18 (by decide) ?_
      exact ih u v13 v17  h
def wp_X11_size (E : ms_En) (u : ms_St) (a0 : Int32) (post : Int32 → ms_St → Prop) : Prop := ∃ n4, wp_X11_size_4 E a0 post n4 u 0 a0
set_option maxHeartbeats 4000000 in
set_option maxRecDepth 100000 in
theorem c_X11_size (l : Launch) (G : va_G) (cy : Nat → ClassId) (L : Nat → Nat) (E : ms_En) (hE : ms_WT E) (u : ms_St) (a0 : Int32)  (post : Int32 → ms_St → Prop) (h : wp_X11_size E u a0 post) : ms_MetI l ⟨"CensusWalkModel", "size", "(I)I"⟩ (Cond.code ⟨"CensusWalkModel", "size", "(I)I"⟩ prog_13_method_72_code 3 (some .int) :: lw_g) ({ frames := 0, cells := 0, slots := 0, locals := 0 } : Room) G cy L E [.int a0] u post 0 0 := by
  refine ms_enterI (lv := [(0, .int a0)]) (by decide) (Nat.le_of_ble_eq_true rfl) rfl ?_
  intro p e s m args below meth c A C hr hlocks
  unfold wp_X11_size at h
  refine a_iconst (v := 0) C dX11_size_0 (by decide) rfl ?_
  refine a_istore_n (lv' := [(0, .int a0), (1, .int 0)]) C dX11_size_1 rfl (by decide) [1, 0] rfl rfl ?_
  refine a_iload_n C dX11_size_2 rfl 0 rfl rfl ?_
  refine a_istore_n (lv' := [(0, .int a0), (1, .int 0), (2, .int a0)]) C dX11_size_3 rfl (by decide) [1, 2, 0] rfl rfl ?_
  refine a_sub (lv' := [(1, .int 0), (2, .int a0)]) [1, 2] rfl ?_
  obtain ⟨n9, h⟩ := h
  exact c_X11_size_4 C hr hlocks hE   n9 u 0 a0  h

/-! CensusWalkModel.isSet(I)Z -/
theorem pd_X11_isSet : (⟨"CensusWalkModel", "isSet", "(I)Z"⟩ : MethodName).cls = "CensusWalkModel" ∧ (⟨"CensusWalkModel", "isSet", "(I)Z"⟩ : MethodName).cls ≠ "java/lang/invoke/MethodHandle" ∧ (⟨"CensusWalkModel", "isSet", "(I)Z"⟩ : MethodName).cls ≠ "java/lang/invoke/VarHandle" ∧ (parseMethodDescriptor (⟨"CensusWalkModel", "isSet", "(I)Z"⟩ : MethodName).desc).map (fun d => d.parameters.length) = some 1 := by decide +kernel
def wp_X11_isSet_30 (E : ms_En) (o : Nat) (a1 : Int32) (post : Int32 → ms_St → Prop)  (u : ms_St) (z0 : Int32) : Prop := (z0 = 0 ∨ z0 = 1) ∧ (post z0 u)
set_option maxHeartbeats 4000000 in
set_option maxRecDepth 100000 in
theorem c_X11_isSet_30 {p : Program} {l : Launch} {e : Env} {s : State} {m : MethodId} {args : Array Value} {below : List Frame} {meth : Method} {c : Code} {G : va_G} {cy : Nat → ClassId} {A : Nat → Prop} {L : Nat → Nat} {E : ms_En} (C : ms_Cx p m c cX11_isSet 2 s args (Cond.code ⟨"CensusWalkModel", "isSet", "(I)Z"⟩ prog_13_method_73_code 2 (some .boolean)) "CensusWalkModel" G cy A) (hr : meth.sig.returnType = (some .boolean)) (hlocks : meth.locks = false) (hE : ms_WT E) {o : Nat} {a1 : Int32} {post : Int32 → ms_St → Prop}  (ho : ms_is E o 11)  (u : ms_St) (z0 : Int32)  (h : wp_X11_isSet_30 E o a1 post u z0) : ms_At p l e ({ frames := 1, cells := 0, slots := 0, locals := 22 } : Room) s m args below meth c 2 G cy A L 0 0 (ms_QI below args s G cy L E A post 0 0) E u 30 [] [.int z0] := by
  unfold wp_X11_isSet_30 at h
  obtain ⟨q30, h⟩ := h
  exact a_zret C dX11_isSet_30 hr hlocks (Nat.le_of_ble_eq_true rfl) (Nat.le_of_ble_eq_true rfl) (ms_nz q30) h
def wp_X11_isSet_29 (E : ms_En) (o : Nat) (a1 : Int32) (post : Int32 → ms_St → Prop)  (u : ms_St)  : Prop := wp_X11_isSet_30 E o a1 post u 0
set_option maxHeartbeats 4000000 in
set_option maxRecDepth 100000 in
theorem c_X11_isSet_29 {p : Program} {l : Launch} {e : Env} {s : State} {m : MethodId} {args : Array Value} {below : List Frame} {meth : Method} {c : Code} {G : va_G} {cy : Nat → ClassId} {A : Nat → Prop} {L : Nat → Nat} {E : ms_En} (C : ms_Cx p m c cX11_isSet 2 s args (Cond.code ⟨"CensusWalkModel", "isSet", "(I)Z"⟩ prog_13_method_73_code 2 (some .boolean)) "CensusWalkModel" G cy A) (hr : meth.sig.returnType = (some .boolean)) (hlocks : meth.locks = false) (hE : ms_WT E) {o : Nat} {a1 : Int32} {post : Int32 → ms_St → Prop}  (ho : ms_is E o 11)  (u : ms_St)   (h : wp_X11_isSet_29 E o a1 post u ) : ms_At p l e ({ frames := 1, cells := 0, slots := 0, locals := 22 } : Room) s m args below meth c 2 G cy A L 0 0 (ms_QI below args s G cy L E A post 0 0) E u 29 [] [] := by
  unfold wp_X11_isSet_29 at h
  refine a_iconst (v := 0) C dX11_isSet_29 (by decide) rfl ?_
  exact c_X11_isSet_30 C hr hlocks hE ho  u 0  h
def wp_X11_isSet (E : ms_En) (u : ms_St) (o : Nat) (a1 : Int32) (post : Int32 → ms_St → Prop) : Prop := (a1 < 0 → wp_X11_isSet_29 E o a1 post u) ∧ (¬ a1 < 0 → vp_in 2 1613 ∧ (((1 <<< ((ms_I u (ms_at E o 8) (Int32.toNatClampNeg 2)) &&& 31)) ≤ a1 → wp_X11_isSet_29 E o a1 post u) ∧ (¬ (1 <<< ((ms_I u (ms_at E o 8) (Int32.toNatClampNeg 2)) &&& 31)) ≤ a1 → wp_X11_size E u a1 (fun r17 u17 => (8 < r17 → wp_X11_isSet_29 E o a1 post u17) ∧ (¬ 8 < r17 → wp_X11_isSet_30 E o a1 post u17 1)))))
set_option maxHeartbeats 4000000 in
set_option maxRecDepth 100000 in
theorem c_X11_isSet (l : Launch) (G : va_G) (cy : Nat → ClassId) (L : Nat → Nat) (E : ms_En) (hE : ms_WT E) (u : ms_St) (o : Nat) (a1 : Int32) (ho : ms_is E o 11) (post : Int32 → ms_St → Prop) (h : wp_X11_isSet E u o a1 post) : ms_MetI l ⟨"CensusWalkModel", "isSet", "(I)Z"⟩ (Cond.code ⟨"CensusWalkModel", "isSet", "(I)Z"⟩ prog_13_method_73_code 2 (some .boolean) :: lw_g) ({ frames := 1, cells := 0, slots := 0, locals := 22 } : Room) G cy L E [.ref (L o), .int a1] u post 0 0 := by
  refine ms_enterI (lv := [(0, .ref (L o)), (1, .int a1)]) (by decide) (Nat.le_of_ble_eq_true rfl) rfl ?_
  intro p e s m args below meth c A C hr hlocks
  unfold wp_X11_isSet at h
  refine a_iload_n C dX11_isSet_0 rfl 1 rfl rfl ?_
  refine a_if_lt (tgt := 29) C dX11_isSet_1 (by decide) rfl (fun hc => ?_) (fun hc => ?_)
  · replace h := h.1 hc
    refine a_sub (lv' := []) [] rfl ?_
    exact c_X11_isSet_29 C hr hlocks hE ho  u  h
  · replace h := h.2 hc
    refine a_iload_n C dX11_isSet_4 rfl 1 rfl rfl ?_
    refine a_iconst (v := 1) C dX11_isSet_5 (by decide) rfl ?_
    refine a_aload_n C dX11_isSet_6 rfl 0 rfl rfl ?_
    refine g_11_8 C hE dX11_isSet_7 ho kw_5_230 rfl ?_
    have k7 : ms_is E (ms_at E o 8) 13 := ms_wt hE ho rfl (by decide)
    have n7 : ms_N E (ms_at E o 8) = 1613 := ms_wl hE ho (by decide) (by decide) rfl
    refine a_iconst (v := 2) C dX11_isSet_10 (by decide) rfl ?_
    obtain ⟨q11, h⟩ := h
    refine a_iald C dX11_isSet_11 k7 n7 q11 rfl ?_
    refine a_ishl C dX11_isSet_12 rfl ?_
    refine a_icmp_ge (tgt := 29) C dX11_isSet_13 (by decide) rfl (fun hc => ?_) (fun hc => ?_)
    · replace h := h.1 hc
      refine a_sub (lv' := []) [] rfl ?_
      exact c_X11_isSet_29 C hr hlocks hE ho  u  h
    · replace h := h.2 hc
      refine a_iload_n C dX11_isSet_16 rfl 1 rfl rfl ?_
      refine a_callSI C (c_X11_size l G cy L E hE u a1  _ h) kw_7_144 kw_7_145 kw_1_12 kw_7_146 rfl rfl pd_X11_size ⟨(Nat.le_of_ble_eq_true rfl), (Nat.le_of_ble_eq_true rfl)⟩ dX11_isSet_17 rfl (Nat.le_of_ble_eq_true rfl) ⟨(Nat.le_of_ble_eq_true rfl), (Nat.le_of_ble_eq_true rfl)⟩ rfl (fun r17 u17 h => ?_)
      refine a_bipush (v := 8) C dX11_isSet_20 (by decide) rfl ?_
      refine a_icmp_gt (tgt := 29) C dX11_isSet_22 (by decide) rfl (fun hc => ?_) (fun hc => ?_)
      · replace h := h.1 hc
        refine a_sub (lv' := []) [] rfl ?_
        exact c_X11_isSet_29 C hr hlocks hE ho  u17  h
      · replace h := h.2 hc
        refine a_iconst (v := 1) C dX11_isSet_25 (by decide) rfl ?_
        refine a_goto (tgt := 30) C dX11_isSet_26 (by decide) ?_
        refine a_sub (lv' := []) [] rfl ?_
        exact c_X11_isSet_30 C hr hlocks hE ho  u17 1  h

/-! CensusWalkModel.lays(I)V -/
theorem pd_X11_lays : (⟨"CensusWalkModel", "lays", "(I)V"⟩ : MethodName).cls = "CensusWalkModel" ∧ (⟨"CensusWalkModel", "lays", "(I)V"⟩ : MethodName).cls ≠ "java/lang/invoke/MethodHandle" ∧ (⟨"CensusWalkModel", "lays", "(I)V"⟩ : MethodName).cls ≠ "java/lang/invoke/VarHandle" ∧ (parseMethodDescriptor (⟨"CensusWalkModel", "lays", "(I)V"⟩ : MethodName).desc).map (fun d => d.parameters.length) = some 1 := by decide +kernel
def wp_X11_lays_48 (E : ms_En) (o : Nat) (a1 : Int32) (post : ms_St → Prop) (k7 : ms_St → Int32 → Prop) (u : ms_St) (x2 : Int32) : Prop := k7 u (x2 + 1)
set_option maxHeartbeats 4000000 in
set_option maxRecDepth 100000 in
theorem c_X11_lays_48 {p : Program} {l : Launch} {e : Env} {s : State} {m : MethodId} {args : Array Value} {below : List Frame} {meth : Method} {c : Code} {G : va_G} {cy : Nat → ClassId} {A : Nat → Prop} {L : Nat → Nat} {E : ms_En} (C : ms_Cx p m c cX11_lays 3 s args (Cond.code ⟨"CensusWalkModel", "lays", "(I)V"⟩ prog_13_method_74_code 3 none) "CensusWalkModel" G cy A) (hr : meth.sig.returnType = none) (hlocks : meth.locks = false) (hE : ms_WT E) {o : Nat} {a1 : Int32} {post : ms_St → Prop} {k7 : ms_St → Int32 → Prop} (ho : ms_is E o 11) (hk7 : ∀ (u : ms_St) (x2 : Int32), k7 u x2 → ms_At p l e ({ frames := 0, cells := 0, slots := 0, locals := 0 } : Room) s m args below meth c 3 G cy A L 0 0 (ms_QV below args s G cy L E A post 0 0) E u 7 [(0, .ref (L o)), (1, .int a1), (2, .int x2)] []) (u : ms_St) (x2 : Int32)  (h : wp_X11_lays_48 E o a1 post k7 u x2) : ms_At p l e ({ frames := 0, cells := 0, slots := 0, locals := 0 } : Room) s m args below meth c 3 G cy A L 0 0 (ms_QV below args s G cy L E A post 0 0) E u 48 [(0, .ref (L o)), (1, .int a1), (2, .int x2)] [] := by
  unfold wp_X11_lays_48 at h
  refine a_iinc (lv' := [(0, .ref (L o)), (1, .int a1), (2, .int (x2 + 1))]) (v := (x2 + 1)) C dX11_lays_48 2 rfl (congrArg (fun z => x2 + z) (by decide)) (by decide) [1, 2, 0] rfl rfl ?_
  refine a_goto (tgt := 7) C dX11_lays_51 (by decide) ?_
  exact hk7 u (x2 + 1)  h
def wp_X11_lays_7 (E : ms_En) (o : Nat) (a1 : Int32) (post : ms_St → Prop)  : Nat → ms_St → Int32 → Prop
  | 0 => fun _ _ => False
  | n + 1 => fun u x2 => vp_in 2 1613 ∧ (((ms_I u (ms_at E o 8) (Int32.toNatClampNeg 2)) ≤ x2 → post u) ∧ (¬ (ms_I u (ms_at E o 8) (Int32.toNatClampNeg 2)) ≤ x2 → (((a1 >>> (x2 &&& 31)) &&& 1) = 0 → wp_X11_lays_48 E o a1 post (wp_X11_lays_7 E o a1 post n) u x2) ∧ (¬ ((a1 >>> (x2 &&& 31)) &&& 1) = 0 → vp_in (ms_I u o 27) 8 ∧ (∀ w45 : ms_St, w45 = (ms_sI (ms_sI u (ms_at E o 26) (Int32.toNatClampNeg (ms_I u o 27)) x2) o 27 ((ms_I (ms_sI u (ms_at E o 26) (Int32.toNatClampNeg (ms_I u o 27)) x2) o 27) + 1)) → (wp_X11_lays_48 E o a1 post (wp_X11_lays_7 E o a1 post n) w45 x2)))))
set_option maxHeartbeats 4000000 in
set_option maxRecDepth 100000 in
theorem c_X11_lays_7 {p : Program} {l : Launch} {e : Env} {s : State} {m : MethodId} {args : Array Value} {below : List Frame} {meth : Method} {c : Code} {G : va_G} {cy : Nat → ClassId} {A : Nat → Prop} {L : Nat → Nat} {E : ms_En} (C : ms_Cx p m c cX11_lays 3 s args (Cond.code ⟨"CensusWalkModel", "lays", "(I)V"⟩ prog_13_method_74_code 3 none) "CensusWalkModel" G cy A) (hr : meth.sig.returnType = none) (hlocks : meth.locks = false) (hE : ms_WT E) {o : Nat} {a1 : Int32} {post : ms_St → Prop}  (ho : ms_is E o 11)  : ∀ (n : Nat) (u : ms_St) (x2 : Int32), wp_X11_lays_7 E o a1 post n u x2 → ms_At p l e ({ frames := 0, cells := 0, slots := 0, locals := 0 } : Room) s m args below meth c 3 G cy A L 0 0 (ms_QV below args s G cy L E A post 0 0) E u 7 [(0, .ref (L o)), (1, .int a1), (2, .int x2)] [] := by
  intro n
  induction n with
  | zero =>
    intro u x2  h
    exact absurd h id
  | succ n ih =>
    intro u x2  h
    unfold wp_X11_lays_7 at h
    refine a_iload_n C dX11_lays_7 rfl 2 rfl rfl ?_
    refine a_aload_n C dX11_lays_8 rfl 0 rfl rfl ?_
    refine g_11_8 C hE dX11_lays_9 ho kw_5_230 rfl ?_
    have k9 : ms_is E (ms_at E o 8) 13 := ms_wt hE ho rfl (by decide)
    have n9 : ms_N E (ms_at E o 8) = 1613 := ms_wl hE ho (by decide) (by decide) rfl
    refine a_iconst (v := 2) C dX11_lays_12 (by decide) rfl ?_
    obtain ⟨q13, h⟩ := h
    refine a_iald C dX11_lays_13 k9 n9 q13 rfl ?_
    refine a_icmp_ge (tgt := 54) C dX11_lays_14 (by decide) rfl (fun hc => ?_) (fun hc => ?_)
    · replace h := h.1 hc
      exact a_vret C dX11_lays_54 hr hlocks (Nat.le_of_ble_eq_true rfl) (Nat.le_of_ble_eq_true rfl) h
    · replace h := h.2 hc
      refine a_iload_n C dX11_lays_17 rfl 1 rfl rfl ?_
      refine a_iload_n C dX11_lays_18 rfl 2 rfl rfl ?_
      refine a_ishr C dX11_lays_19 rfl ?_
      refine a_iconst (v := 1) C dX11_lays_20 (by decide) rfl ?_
      refine a_iand C dX11_lays_21 rfl ?_
      refine a_if_ne (tgt := 28) C dX11_lays_22 (by decide) rfl (fun hc => ?_) (fun hc => ?_)
      · replace h := h.2 hc
        refine a_aload_n C dX11_lays_28 rfl 0 rfl rfl ?_
        refine g_11_26 C hE dX11_lays_29 ho kw_6_8 rfl ?_
        have k29 : ms_is E (ms_at E o 26) 13 := ms_wt hE ho rfl (by decide)
        have n29 : ms_N E (ms_at E o 26) = 8 := ms_wl hE ho (by decide) (by decide) rfl
        refine a_aload_n C dX11_lays_32 rfl 0 rfl rfl ?_
        refine g_11_27 C dX11_lays_33 ho kw_6_9 rfl ?_
        refine a_iload_n C dX11_lays_36 rfl 2 rfl rfl ?_
        obtain ⟨q37, h⟩ := h
        refine a_iast C dX11_lays_37 k29 n29 q37 rfl ?_
        refine a_aload_n C dX11_lays_38 rfl 0 rfl rfl ?_
        refine a_dup C dX11_lays_39 rfl rfl ?_
        refine g_11_27 C dX11_lays_40 ho kw_6_9 rfl ?_
        refine a_iconst (v := 1) C dX11_lays_43 (by decide) rfl ?_
        refine a_iadd C dX11_lays_44 rfl ?_
        refine s_11_27 C dX11_lays_45 ho kw_6_9 rfl ?_
        refine a_nmU (fun w45 e45 => ?_)
        replace h := h w45 e45
        exact c_X11_lays_48 C hr hlocks hE ho ih w45 x2  h
      · replace h := h.1 hc
        refine a_goto (tgt := 48) C dX11_lays_25 (by decide) ?_
        exact c_X11_lays_48 C hr hlocks hE ho ih u x2  h
def wp_X11_lays (E : ms_En) (u : ms_St) (o : Nat) (a1 : Int32) (post : ms_St → Prop) : Prop := ∃ n7, wp_X11_lays_7 E o a1 post n7 (ms_sI u o 27 0) 0
set_option maxHeartbeats 4000000 in
set_option maxRecDepth 100000 in
theorem c_X11_lays (l : Launch) (G : va_G) (cy : Nat → ClassId) (L : Nat → Nat) (E : ms_En) (hE : ms_WT E) (u : ms_St) (o : Nat) (a1 : Int32) (ho : ms_is E o 11) (post : ms_St → Prop) (h : wp_X11_lays E u o a1 post) : ms_MetV l ⟨"CensusWalkModel", "lays", "(I)V"⟩ (Cond.code ⟨"CensusWalkModel", "lays", "(I)V"⟩ prog_13_method_74_code 3 none :: lw_g) ({ frames := 0, cells := 0, slots := 0, locals := 0 } : Room) G cy L E [.ref (L o), .int a1] u post 0 0 := by
  refine ms_enterV (lv := [(0, .ref (L o)), (1, .int a1)]) (by decide) (Nat.le_of_ble_eq_true rfl) rfl ?_
  intro p e s m args below meth c A C hr hlocks
  unfold wp_X11_lays at h
  refine a_aload_n C dX11_lays_0 rfl 0 rfl rfl ?_
  refine a_iconst (v := 0) C dX11_lays_1 (by decide) rfl ?_
  refine s_11_27 C dX11_lays_2 ho kw_6_9 rfl ?_
  refine a_iconst (v := 0) C dX11_lays_5 (by decide) rfl ?_
  refine a_istore_n (lv' := [(0, .ref (L o)), (1, .int a1), (2, .int 0)]) C dX11_lays_6 rfl (by decide) [1, 2, 0] rfl rfl ?_
  obtain ⟨n9, h⟩ := h
  exact c_X11_lays_7 C hr hlocks hE ho  n9 (ms_sI u o 27 0) 0  h

/-! CensusWalkModel.after(II)I -/
theorem pd_X11_after : (⟨"CensusWalkModel", "after", "(II)I"⟩ : MethodName).cls = "CensusWalkModel" ∧ (⟨"CensusWalkModel", "after", "(II)I"⟩ : MethodName).cls ≠ "java/lang/invoke/MethodHandle" ∧ (⟨"CensusWalkModel", "after", "(II)I"⟩ : MethodName).cls ≠ "java/lang/invoke/VarHandle" ∧ (parseMethodDescriptor (⟨"CensusWalkModel", "after", "(II)I"⟩ : MethodName).desc).map (fun d => d.parameters.length) = some 2 := by decide +kernel
def wp_X11_after_48 (E : ms_En) (o : Nat) (a1 : Int32) (a2 : Int32) (post : Int32 → ms_St → Prop)  (u : ms_St) (z0 : Int32) : Prop := wp_X11_visit E u o a2 1 (fun r51 u51 => post (z0 + r51) u51)
set_option maxHeartbeats 4000000 in
set_option maxRecDepth 100000 in
theorem c_X11_after_48 {p : Program} {l : Launch} {e : Env} {s : State} {m : MethodId} {args : Array Value} {below : List Frame} {meth : Method} {c : Code} {G : va_G} {cy : Nat → ClassId} {A : Nat → Prop} {L : Nat → Nat} {E : ms_En} (C : ms_Cx p m c cX11_after 3 s args (Cond.code ⟨"CensusWalkModel", "after", "(II)I"⟩ prog_13_method_75_code 3 (some .int)) "CensusWalkModel" G cy A) (hr : meth.sig.returnType = (some .int)) (hlocks : meth.locks = false) (hE : ms_WT E) {o : Nat} {a1 : Int32} {a2 : Int32} {post : Int32 → ms_St → Prop}  (ho : ms_is E o 11)  (u : ms_St) (z0 : Int32)  (h : wp_X11_after_48 E o a1 a2 post u z0) : ms_At p l e ({ frames := 3, cells := 0, slots := 0, locals := 71 } : Room) s m args below meth c 3 G cy A L 0 0 (ms_QI below args s G cy L E A post 0 0) E u 48 [(0, .ref (L o)), (2, .int a2)] [.int z0] := by
  unfold wp_X11_after_48 at h
  refine a_aload_n C dX11_after_48 rfl 0 rfl rfl ?_
  refine a_iload_n C dX11_after_49 rfl 1 rfl rfl ?_
  refine a_iconst (v := 1) C dX11_after_50 (by decide) rfl ?_
  refine a_callVI C (c_X11_visit l G cy L E hE u o a2 1 ho _ h) ho rfl (by decide) kw_7_55 kw_7_57 kp_71 kw_1_12 kw_7_58 rfl rfl pd_X11_visit ⟨(Nat.le_of_ble_eq_true rfl), (Nat.le_of_ble_eq_true rfl)⟩ dX11_after_51 rfl (Nat.le_of_ble_eq_true rfl) ⟨(Nat.le_of_ble_eq_true rfl), (Nat.le_of_ble_eq_true rfl)⟩ rfl (fun r51 u51 h => ?_)
  refine a_iadd C dX11_after_54 rfl ?_
  exact a_iret C dX11_after_55 hr hlocks (Nat.le_of_ble_eq_true rfl) (Nat.le_of_ble_eq_true rfl) h
def wp_X11_after (E : ms_En) (u : ms_St) (o : Nat) (a1 : Int32) (a2 : Int32) (post : Int32 → ms_St → Prop) : Prop := wp_X11_house E u a2 (fun r6 u6 => vp_in (r6 + 5) 1613 ∧ ((a1 < (ms_I u6 (ms_at E o 8) (Int32.toNatClampNeg (r6 + 5))) → wp_X11_house E u6 a2 (fun r24 u24 => vp_in (r24 + 4) 1613 ∧ (((ms_I u24 (ms_at E o 8) (Int32.toNatClampNeg (r24 + 4))) ≤ a1 → wp_X11_after_48 E o a1 a2 post u24 a1) ∧ (¬ (ms_I u24 (ms_at E o 8) (Int32.toNatClampNeg (r24 + 4))) ≤ a1 → wp_X11_house E u24 a2 (fun r38 u38 => vp_in (r38 + 4) 1613 ∧ (wp_X11_after_48 E o a1 a2 post u38 (ms_I u38 (ms_at E o 8) (Int32.toNatClampNeg (r38 + 4))))))))) ∧ (¬ a1 < (ms_I u6 (ms_at E o 8) (Int32.toNatClampNeg (r6 + 5))) → post 1000000 u6)))
set_option maxHeartbeats 4000000 in
set_option maxRecDepth 100000 in
theorem c_X11_after (l : Launch) (G : va_G) (cy : Nat → ClassId) (L : Nat → Nat) (E : ms_En) (hE : ms_WT E) (u : ms_St) (o : Nat) (a1 : Int32) (a2 : Int32) (ho : ms_is E o 11) (post : Int32 → ms_St → Prop) (h : wp_X11_after E u o a1 a2 post) : ms_MetI l ⟨"CensusWalkModel", "after", "(II)I"⟩ (Cond.code ⟨"CensusWalkModel", "after", "(II)I"⟩ prog_13_method_75_code 3 (some .int) :: lw_g) ({ frames := 3, cells := 0, slots := 0, locals := 71 } : Room) G cy L E [.ref (L o), .int a1, .int a2] u post 0 0 := by
  refine ms_enterI (lv := [(0, .ref (L o)), (1, .int a1), (2, .int a2)]) (by decide) (Nat.le_of_ble_eq_true rfl) rfl ?_
  intro p e s m args below meth c A C hr hlocks
  unfold wp_X11_after at h
  refine a_iload_n C dX11_after_0 rfl 1 rfl rfl ?_
  refine a_aload_n C dX11_after_1 rfl 0 rfl rfl ?_
  refine g_11_8 C hE dX11_after_2 ho kw_5_230 rfl ?_
  have k2 : ms_is E (ms_at E o 8) 13 := ms_wt hE ho rfl (by decide)
  have n2 : ms_N E (ms_at E o 8) = 1613 := ms_wl hE ho (by decide) (by decide) rfl
  refine a_iload_n C dX11_after_5 rfl 2 rfl rfl ?_
  refine a_callSI C (c_X11_house l G cy L E hE u a2  _ h) kw_6_160 kw_6_161 kw_1_12 kw_6_162 rfl rfl pd_X11_house ⟨(Nat.le_of_ble_eq_true rfl), (Nat.le_of_ble_eq_true rfl)⟩ dX11_after_6 rfl (Nat.le_of_ble_eq_true rfl) ⟨(Nat.le_of_ble_eq_true rfl), (Nat.le_of_ble_eq_true rfl)⟩ rfl (fun r6 u6 h => ?_)
  refine a_iconst (v := 5) C dX11_after_9 (by decide) rfl ?_
  refine a_iadd C dX11_after_10 rfl ?_
  obtain ⟨q11, h⟩ := h
  refine a_iald C dX11_after_11 k2 n2 q11 rfl ?_
  refine a_icmp_lt (tgt := 18) C dX11_after_12 (by decide) rfl (fun hc => ?_) (fun hc => ?_)
  · replace h := h.1 hc
    refine a_iload_n C dX11_after_18 rfl 1 rfl rfl ?_
    refine a_aload_n C dX11_after_19 rfl 0 rfl rfl ?_
    refine g_11_8 C hE dX11_after_20 ho kw_5_230 rfl ?_
    refine a_iload_n C dX11_after_23 rfl 2 rfl rfl ?_
    refine a_callSI C (c_X11_house l G cy L E hE u6 a2  _ h) kw_6_160 kw_6_161 kw_1_12 kw_6_162 rfl rfl pd_X11_house ⟨(Nat.le_of_ble_eq_true rfl), (Nat.le_of_ble_eq_true rfl)⟩ dX11_after_24 rfl (Nat.le_of_ble_eq_true rfl) ⟨(Nat.le_of_ble_eq_true rfl), (Nat.le_of_ble_eq_true rfl)⟩ rfl (fun r24 u24 h => ?_)
    refine a_iconst (v := 4) C dX11_after_27 (by decide) rfl ?_
    refine a_iadd C dX11_after_28 rfl ?_
    obtain ⟨q29, h⟩ := h
    refine a_iald C dX11_after_29 k2 n2 q29 rfl ?_
    refine a_icmp_ge (tgt := 47) C dX11_after_30 (by decide) rfl (fun hc => ?_) (fun hc => ?_)
    · replace h := h.1 hc
      refine a_iload_n C dX11_after_47 rfl 1 rfl rfl ?_
      refine a_sub (lv' := [(0, .ref (L o)), (2, .int a2)]) [0, 2] rfl ?_
      exact c_X11_after_48 C hr hlocks hE ho  u24 a1  h
    · replace h := h.2 hc
      refine a_aload_n C dX11_after_33 rfl 0 rfl rfl ?_
      refine g_11_8 C hE dX11_after_34 ho kw_5_230 rfl ?_
      refine a_iload_n C dX11_after_37 rfl 2 rfl rfl ?_
      refine a_callSI C (c_X11_house l G cy L E hE u24 a2  _ h) kw_6_160 kw_6_161 kw_1_12 kw_6_162 rfl rfl pd_X11_house ⟨(Nat.le_of_ble_eq_true rfl), (Nat.le_of_ble_eq_true rfl)⟩ dX11_after_38 rfl (Nat.le_of_ble_eq_true rfl) ⟨(Nat.le_of_ble_eq_true rfl), (Nat.le_of_ble_eq_true rfl)⟩ rfl (fun r38 u38 h => ?_)
      refine a_iconst (v := 4) C dX11_after_41 (by decide) rfl ?_
      refine a_iadd C dX11_after_42 rfl ?_
      obtain ⟨q43, h⟩ := h
      refine a_iald C dX11_after_43 k2 n2 q43 rfl ?_
      refine a_goto (tgt := 48) C dX11_after_44 (by decide) ?_
      refine a_sub (lv' := [(0, .ref (L o)), (2, .int a2)]) [0, 2] rfl ?_
      exact c_X11_after_48 C hr hlocks hE ho  u38 (ms_I u38 (ms_at E o 8) (Int32.toNatClampNeg (r38 + 4)))  h
  · replace h := h.2 hc
    refine a_ldc (v := 1000000) C dX11_after_15 kw_6_135 rfl ?_
    exact a_iret C dX11_after_17 hr hlocks (Nat.le_of_ble_eq_true rfl) (Nat.le_of_ble_eq_true rfl) h

/-! CensusWalkModel.goesOn(IIII)I -/
theorem pd_X11_goesOn : (⟨"CensusWalkModel", "goesOn", "(IIII)I"⟩ : MethodName).cls = "CensusWalkModel" ∧ (⟨"CensusWalkModel", "goesOn", "(IIII)I"⟩ : MethodName).cls ≠ "java/lang/invoke/MethodHandle" ∧ (⟨"CensusWalkModel", "goesOn", "(IIII)I"⟩ : MethodName).cls ≠ "java/lang/invoke/VarHandle" ∧ (parseMethodDescriptor (⟨"CensusWalkModel", "goesOn", "(IIII)I"⟩ : MethodName).desc).map (fun d => d.parameters.length) = some 4 := by decide +kernel
def wp_X11_goesOn_78 (E : ms_En) (o : Nat) (a1 : Int32) (a2 : Int32) (a3 : Int32) (a4 : Int32) (post : Int32 → ms_St → Prop)  (u : ms_St) (z0 : Int32) : Prop := post z0 u
set_option maxHeartbeats 4000000 in
set_option maxRecDepth 100000 in
theorem c_X11_goesOn_78 {p : Program} {l : Launch} {e : Env} {s : State} {m : MethodId} {args : Array Value} {below : List Frame} {meth : Method} {c : Code} {G : va_G} {cy : Nat → ClassId} {A : Nat → Prop} {L : Nat → Nat} {E : ms_En} (C : ms_Cx p m c cX11_goesOn 6 s args (Cond.code ⟨"CensusWalkModel", "goesOn", "(IIII)I"⟩ prog_13_method_76_code 6 (some .int)) "CensusWalkModel" G cy A) (hr : meth.sig.returnType = (some .int)) (hlocks : meth.locks = false) (hE : ms_WT E) {o : Nat} {a1 : Int32} {a2 : Int32} {a3 : Int32} {a4 : Int32} {post : Int32 → ms_St → Prop}  (ho : ms_is E o 11)  (u : ms_St) (z0 : Int32)  (h : wp_X11_goesOn_78 E o a1 a2 a3 a4 post u z0) : ms_At p l e ({ frames := 5, cells := 0, slots := 0, locals := 108 } : Room) s m args below meth c 6 G cy A L 0 0 (ms_QI below args s G cy L E A post 0 0) E u 78 [] [.int z0] := by
  unfold wp_X11_goesOn_78 at h
  exact a_iret C dX11_goesOn_78 hr hlocks (Nat.le_of_ble_eq_true rfl) (Nat.le_of_ble_eq_true rfl) h
def wp_X11_goesOn_58 (E : ms_En) (o : Nat) (a1 : Int32) (a2 : Int32) (a3 : Int32) (a4 : Int32) (post : Int32 → ms_St → Prop)  (u : ms_St)  : Prop := wp_X11_goesOn_78 E o a1 a2 a3 a4 post u 1000000
set_option maxHeartbeats 4000000 in
set_option maxRecDepth 100000 in
theorem c_X11_goesOn_58 {p : Program} {l : Launch} {e : Env} {s : State} {m : MethodId} {args : Array Value} {below : List Frame} {meth : Method} {c : Code} {G : va_G} {cy : Nat → ClassId} {A : Nat → Prop} {L : Nat → Nat} {E : ms_En} (C : ms_Cx p m c cX11_goesOn 6 s args (Cond.code ⟨"CensusWalkModel", "goesOn", "(IIII)I"⟩ prog_13_method_76_code 6 (some .int)) "CensusWalkModel" G cy A) (hr : meth.sig.returnType = (some .int)) (hlocks : meth.locks = false) (hE : ms_WT E) {o : Nat} {a1 : Int32} {a2 : Int32} {a3 : Int32} {a4 : Int32} {post : Int32 → ms_St → Prop}  (ho : ms_is E o 11)  (u : ms_St)   (h : wp_X11_goesOn_58 E o a1 a2 a3 a4 post u ) : ms_At p l e ({ frames := 5, cells := 0, slots := 0, locals := 108 } : Room) s m args below meth c 6 G cy A L 0 0 (ms_QI below args s G cy L E A post 0 0) E u 58 [] [] := by
  unfold wp_X11_goesOn_58 at h
  refine a_ldc (v := 1000000) C dX11_goesOn_58 kw_6_135 rfl ?_
  refine a_goto (tgt := 78) C dX11_goesOn_60 (by decide) ?_
  exact c_X11_goesOn_78 C hr hlocks hE ho  u 1000000  h
def wp_X11_goesOn_42 (E : ms_En) (o : Nat) (a1 : Int32) (a2 : Int32) (a3 : Int32) (a4 : Int32) (post : Int32 → ms_St → Prop)  (u : ms_St) (z0 : Int32) : Prop := (1000000 ≤ z0 → wp_X11_goesOn_58 E o a1 a2 a3 a4 post u) ∧ (¬ 1000000 ≤ z0 → (a4 < 1000000 → vp_in a3 8 ∧ (wp_X11_after E u o (a4 + z0) (ms_I u (ms_at E o 26) (Int32.toNatClampNeg a3)) (fun r75 u75 => wp_X11_goesOn_78 E o a1 a2 a3 a4 post u75 r75))) ∧ (¬ a4 < 1000000 → wp_X11_goesOn_58 E o a1 a2 a3 a4 post u))
set_option maxHeartbeats 4000000 in
set_option maxRecDepth 100000 in
theorem c_X11_goesOn_42 {p : Program} {l : Launch} {e : Env} {s : State} {m : MethodId} {args : Array Value} {below : List Frame} {meth : Method} {c : Code} {G : va_G} {cy : Nat → ClassId} {A : Nat → Prop} {L : Nat → Nat} {E : ms_En} (C : ms_Cx p m c cX11_goesOn 6 s args (Cond.code ⟨"CensusWalkModel", "goesOn", "(IIII)I"⟩ prog_13_method_76_code 6 (some .int)) "CensusWalkModel" G cy A) (hr : meth.sig.returnType = (some .int)) (hlocks : meth.locks = false) (hE : ms_WT E) {o : Nat} {a1 : Int32} {a2 : Int32} {a3 : Int32} {a4 : Int32} {post : Int32 → ms_St → Prop}  (ho : ms_is E o 11)  (u : ms_St) (z0 : Int32)  (h : wp_X11_goesOn_42 E o a1 a2 a3 a4 post u z0) : ms_At p l e ({ frames := 5, cells := 0, slots := 0, locals := 108 } : Room) s m args below meth c 6 G cy A L 0 0 (ms_QI below args s G cy L E A post 0 0) E u 42 [(0, .ref (L o)), (3, .int a3), (4, .int a4)] [.int z0] := by
  unfold wp_X11_goesOn_42 at h
  refine a_istore (lv' := [(0, .ref (L o)), (3, .int a3), (4, .int a4), (5, .int z0)]) C dX11_goesOn_42 (by decide) [1, 2, 3, 0] rfl rfl ?_
  refine a_iload C dX11_goesOn_44 3 rfl rfl ?_
  refine a_ldc (v := 1000000) C dX11_goesOn_46 kw_6_135 rfl ?_
  refine a_icmp_ge (tgt := 58) C dX11_goesOn_48 (by decide) rfl (fun hc => ?_) (fun hc => ?_)
  · replace h := h.1 hc
    refine a_sub (lv' := []) [] rfl ?_
    exact c_X11_goesOn_58 C hr hlocks hE ho  u  h
  · replace h := h.2 hc
    refine a_iload C dX11_goesOn_51 2 rfl rfl ?_
    refine a_ldc (v := 1000000) C dX11_goesOn_53 kw_6_135 rfl ?_
    refine a_icmp_lt (tgt := 63) C dX11_goesOn_55 (by decide) rfl (fun hc => ?_) (fun hc => ?_)
    · replace h := h.1 hc
      refine a_aload_n C dX11_goesOn_63 rfl 0 rfl rfl ?_
      refine a_iload C dX11_goesOn_64 2 rfl rfl ?_
      refine a_iload C dX11_goesOn_66 3 rfl rfl ?_
      refine a_iadd C dX11_goesOn_68 rfl ?_
      refine a_aload_n C dX11_goesOn_69 rfl 0 rfl rfl ?_
      refine g_11_26 C hE dX11_goesOn_70 ho kw_6_8 rfl ?_
      have k70 : ms_is E (ms_at E o 26) 13 := ms_wt hE ho rfl (by decide)
      have n70 : ms_N E (ms_at E o 26) = 8 := ms_wl hE ho (by decide) (by decide) rfl
      refine a_iload_n C dX11_goesOn_73 rfl 1 rfl rfl ?_
      obtain ⟨q74, h⟩ := h
      refine a_iald C dX11_goesOn_74 k70 n70 q74 rfl ?_
      refine a_callVI C (c_X11_after l G cy L E hE u o (a4 + z0) (ms_I u (ms_at E o 26) (Int32.toNatClampNeg a3)) ho _ h) ho rfl (by decide) kw_7_159 kw_7_161 kp_84 kw_1_12 kw_7_162 rfl rfl pd_X11_after ⟨(Nat.le_of_ble_eq_true rfl), (Nat.le_of_ble_eq_true rfl)⟩ dX11_goesOn_75 rfl (Nat.le_of_ble_eq_true rfl) ⟨(Nat.le_of_ble_eq_true rfl), (Nat.le_of_ble_eq_true rfl)⟩ rfl (fun r75 u75 h => ?_)
      refine a_sub (lv' := []) [] rfl ?_
      exact c_X11_goesOn_78 C hr hlocks hE ho  u75 r75  h
    · replace h := h.2 hc
      refine a_sub (lv' := []) [] rfl ?_
      exact c_X11_goesOn_58 C hr hlocks hE ho  u  h
def wp_X11_goesOn (E : ms_En) (u : ms_St) (o : Nat) (a1 : Int32) (a2 : Int32) (a3 : Int32) (a4 : Int32) (post : Int32 → ms_St → Prop) : Prop := (0 ≤ a2 → vp_in a2 8 ∧ (vp_in a3 8 ∧ (wp_X11_between E u o (ms_I u (ms_at E o 26) (Int32.toNatClampNeg a2)) (ms_I u (ms_at E o 26) (Int32.toNatClampNeg a3)) (fun r39 u39 => wp_X11_goesOn_42 E o a1 a2 a3 a4 post u39 r39)))) ∧ (¬ 0 ≤ a2 → wp_X11_walker E u a1 (fun r10 u10 => vp_in r10 1613 ∧ (vp_in a3 8 ∧ (wp_X11_fromCrossing E u10 o (ms_I u10 (ms_at E o 8) (Int32.toNatClampNeg r10)) (ms_I u10 (ms_at E o 26) (Int32.toNatClampNeg a3)) (fun r20 u20 => wp_X11_goesOn_42 E o a1 a2 a3 a4 post u20 r20)))))
set_option maxHeartbeats 4000000 in
set_option maxRecDepth 100000 in
theorem c_X11_goesOn (l : Launch) (G : va_G) (cy : Nat → ClassId) (L : Nat → Nat) (E : ms_En) (hE : ms_WT E) (u : ms_St) (o : Nat) (a1 : Int32) (a2 : Int32) (a3 : Int32) (a4 : Int32) (ho : ms_is E o 11) (post : Int32 → ms_St → Prop) (h : wp_X11_goesOn E u o a1 a2 a3 a4 post) : ms_MetI l ⟨"CensusWalkModel", "goesOn", "(IIII)I"⟩ (Cond.code ⟨"CensusWalkModel", "goesOn", "(IIII)I"⟩ prog_13_method_76_code 6 (some .int) :: lw_g) ({ frames := 5, cells := 0, slots := 0, locals := 108 } : Room) G cy L E [.ref (L o), .int a1, .int a2, .int a3, .int a4] u post 0 0 := by
  refine ms_enterI (lv := [(0, .ref (L o)), (1, .int a1), (2, .int a2), (3, .int a3), (4, .int a4)]) (by decide) (Nat.le_of_ble_eq_true rfl) rfl ?_
  intro p e s m args below meth c A C hr hlocks
  unfold wp_X11_goesOn at h
  refine a_iload_n C dX11_goesOn_0 rfl 2 rfl rfl ?_
  refine a_if_ge (tgt := 26) C dX11_goesOn_1 (by decide) rfl (fun hc => ?_) (fun hc => ?_)
  · replace h := h.1 hc
    refine a_aload_n C dX11_goesOn_26 rfl 0 rfl rfl ?_
    refine a_aload_n C dX11_goesOn_27 rfl 0 rfl rfl ?_
    refine g_11_26 C hE dX11_goesOn_28 ho kw_6_8 rfl ?_
    have k28 : ms_is E (ms_at E o 26) 13 := ms_wt hE ho rfl (by decide)
    have n28 : ms_N E (ms_at E o 26) = 8 := ms_wl hE ho (by decide) (by decide) rfl
    refine a_iload_n C dX11_goesOn_31 rfl 2 rfl rfl ?_
    obtain ⟨q32, h⟩ := h
    refine a_iald C dX11_goesOn_32 k28 n28 q32 rfl ?_
    refine a_aload_n C dX11_goesOn_33 rfl 0 rfl rfl ?_
    refine g_11_26 C hE dX11_goesOn_34 ho kw_6_8 rfl ?_
    refine a_iload_n C dX11_goesOn_37 rfl 3 rfl rfl ?_
    obtain ⟨q38, h⟩ := h
    refine a_iald C dX11_goesOn_38 k28 n28 q38 rfl ?_
    refine a_callVI C (c_X11_between l G cy L E hE u o (ms_I u (ms_at E o 26) (Int32.toNatClampNeg a2)) (ms_I u (ms_at E o 26) (Int32.toNatClampNeg a3)) ho _ h) ho rfl (by decide) kw_6_236 kw_6_238 kp_63 kw_1_12 kw_6_239 rfl rfl pd_X11_between ⟨(Nat.le_of_ble_eq_true rfl), (Nat.le_of_ble_eq_true rfl)⟩ dX11_goesOn_39 rfl (Nat.le_of_ble_eq_true rfl) ⟨(Nat.le_of_ble_eq_true rfl), (Nat.le_of_ble_eq_true rfl)⟩ rfl (fun r39 u39 h => ?_)
    refine a_sub (lv' := [(0, .ref (L o)), (3, .int a3), (4, .int a4)]) [0, 3, 4] rfl ?_
    exact c_X11_goesOn_42 C hr hlocks hE ho  u39 r39  h
  · replace h := h.2 hc
    refine a_aload_n C dX11_goesOn_4 rfl 0 rfl rfl ?_
    refine a_aload_n C dX11_goesOn_5 rfl 0 rfl rfl ?_
    refine g_11_8 C hE dX11_goesOn_6 ho kw_5_230 rfl ?_
    have k6 : ms_is E (ms_at E o 8) 13 := ms_wt hE ho rfl (by decide)
    have n6 : ms_N E (ms_at E o 8) = 1613 := ms_wl hE ho (by decide) (by decide) rfl
    refine a_iload_n C dX11_goesOn_9 rfl 1 rfl rfl ?_
    refine a_callSI C (c_X11_walker l G cy L E hE u a1  _ h) kw_6_169 kw_6_170 kw_1_12 kw_6_171 rfl rfl pd_X11_walker ⟨(Nat.le_of_ble_eq_true rfl), (Nat.le_of_ble_eq_true rfl)⟩ dX11_goesOn_10 rfl (Nat.le_of_ble_eq_true rfl) ⟨(Nat.le_of_ble_eq_true rfl), (Nat.le_of_ble_eq_true rfl)⟩ rfl (fun r10 u10 h => ?_)
    obtain ⟨q13, h⟩ := h
    refine a_iald C dX11_goesOn_13 k6 n6 q13 rfl ?_
    refine a_aload_n C dX11_goesOn_14 rfl 0 rfl rfl ?_
    refine g_11_26 C hE dX11_goesOn_15 ho kw_6_8 rfl ?_
    have k15 : ms_is E (ms_at E o 26) 13 := ms_wt hE ho rfl (by decide)
    have n15 : ms_N E (ms_at E o 26) = 8 := ms_wl hE ho (by decide) (by decide) rfl
    refine a_iload_n C dX11_goesOn_18 rfl 3 rfl rfl ?_
    obtain ⟨q19, h⟩ := h
    refine a_iald C dX11_goesOn_19 k15 n15 q19 rfl ?_
    refine a_callVI C (c_X11_fromCrossing l G cy L E hE u10 o (ms_I u10 (ms_at E o 8) (Int32.toNatClampNeg r10)) (ms_I u10 (ms_at E o 26) (Int32.toNatClampNeg a3)) ho _ h) ho rfl (by decide) kw_7_12 kw_7_14 kp_67 kw_1_12 kw_7_15 rfl rfl pd_X11_fromCrossing ⟨(Nat.le_of_ble_eq_true rfl), (Nat.le_of_ble_eq_true rfl)⟩ dX11_goesOn_20 rfl (Nat.le_of_ble_eq_true rfl) ⟨(Nat.le_of_ble_eq_true rfl), (Nat.le_of_ble_eq_true rfl)⟩ rfl (fun r20 u20 h => ?_)
    refine a_goto (tgt := 42) C dX11_goesOn_23 (by decide) ?_
    refine a_sub (lv' := [(0, .ref (L o)), (3, .int a3), (4, .int a4)]) [0, 3, 4] rfl ?_
    exact c_X11_goesOn_42 C hr hlocks hE ho  u20 r20  h

/-! CensusWalkModel.findSoonest(I)V -/
theorem pd_X11_findSoonest : (⟨"CensusWalkModel", "findSoonest", "(I)V"⟩ : MethodName).cls = "CensusWalkModel" ∧ (⟨"CensusWalkModel", "findSoonest", "(I)V"⟩ : MethodName).cls ≠ "java/lang/invoke/MethodHandle" ∧ (⟨"CensusWalkModel", "findSoonest", "(I)V"⟩ : MethodName).cls ≠ "java/lang/invoke/VarHandle" ∧ (parseMethodDescriptor (⟨"CensusWalkModel", "findSoonest", "(I)V"⟩ : MethodName).desc).map (fun d => d.parameters.length) = some 1 := by decide +kernel
def wp_X11_findSoonest_134 (E : ms_En) (o : Nat) (a1 : Int32) (post : ms_St → Prop) (k2 : ms_St → Int32 → Prop) (k14 : ms_St → Int32 → Int32 → Prop) (u : ms_St) (x2 : Int32) (x3 : Int32) : Prop := k14 u x2 (x3 + 1)
set_option maxHeartbeats 4000000 in
set_option maxRecDepth 100000 in
theorem c_X11_findSoonest_134 {p : Program} {l : Launch} {e : Env} {s : State} {m : MethodId} {args : Array Value} {below : List Frame} {meth : Method} {c : Code} {G : va_G} {cy : Nat → ClassId} {A : Nat → Prop} {L : Nat → Nat} {E : ms_En} (C : ms_Cx p m c cX11_findSoonest 7 s args (Cond.code ⟨"CensusWalkModel", "findSoonest", "(I)V"⟩ prog_13_method_77_code 7 none) "CensusWalkModel" G cy A) (hr : meth.sig.returnType = none) (hlocks : meth.locks = false) (hE : ms_WT E) {o : Nat} {a1 : Int32} {post : ms_St → Prop} {k2 : ms_St → Int32 → Prop} {k14 : ms_St → Int32 → Int32 → Prop} (ho : ms_is E o 11) (hk2 : ∀ (u : ms_St) (x2 : Int32), k2 u x2 → ms_At p l e ({ frames := 6, cells := 0, slots := 0, locals := 133 } : Room) s m args below meth c 7 G cy A L 0 0 (ms_QV below args s G cy L E A post 0 0) E u 2 [(0, .ref (L o)), (1, .int a1), (2, .int x2)] []) (hk14 : ∀ (u : ms_St) (x2 : Int32) (x3 : Int32), k14 u x2 x3 → ms_At p l e ({ frames := 6, cells := 0, slots := 0, locals := 133 } : Room) s m args below meth c 7 G cy A L 0 0 (ms_QV below args s G cy L E A post 0 0) E u 14 [(0, .ref (L o)), (1, .int a1), (2, .int x2), (3, .int x3)] []) (u : ms_St) (x2 : Int32) (x3 : Int32)  (h : wp_X11_findSoonest_134 E o a1 post k2 k14 u x2 x3) : ms_At p l e ({ frames := 6, cells := 0, slots := 0, locals := 133 } : Room) s m args below meth c 7 G cy A L 0 0 (ms_QV below args s G cy L E A post 0 0) E u 134 [(0, .ref (L o)), (1, .int a1), (2, .int x2), (3, .int x3)] [] := by
  unfold wp_X11_findSoonest_134 at h
  refine a_iinc (lv' := [(0, .ref (L o)), (1, .int a1), (2, .int x2), (3, .int (x3 + 1))]) (v := (x3 + 1)) C dX11_findSoonest_134 3 rfl (congrArg (fun z => x3 + z) (by decide)) (by decide) [1, 2, 3, 0] rfl rfl ?_
  refine a_goto (tgt := 14) C dX11_findSoonest_137 (by decide) ?_
  exact hk14 u x2 (x3 + 1)  h
def wp_X11_findSoonest_118 (E : ms_En) (o : Nat) (a1 : Int32) (post : ms_St → Prop) (k2 : ms_St → Int32 → Prop) (k14 : ms_St → Int32 → Int32 → Prop) (k73 : ms_St → Int32 → Int32 → Int32 → Int32 → Int32 → Prop) (u : ms_St) (x2 : Int32) (x3 : Int32) (x4 : Int32) (x5 : Int32) (x6 : Int32) : Prop := k73 u x2 x3 x4 x5 (x6 + 1)
set_option maxHeartbeats 4000000 in
set_option maxRecDepth 100000 in
theorem c_X11_findSoonest_118 {p : Program} {l : Launch} {e : Env} {s : State} {m : MethodId} {args : Array Value} {below : List Frame} {meth : Method} {c : Code} {G : va_G} {cy : Nat → ClassId} {A : Nat → Prop} {L : Nat → Nat} {E : ms_En} (C : ms_Cx p m c cX11_findSoonest 7 s args (Cond.code ⟨"CensusWalkModel", "findSoonest", "(I)V"⟩ prog_13_method_77_code 7 none) "CensusWalkModel" G cy A) (hr : meth.sig.returnType = none) (hlocks : meth.locks = false) (hE : ms_WT E) {o : Nat} {a1 : Int32} {post : ms_St → Prop} {k2 : ms_St → Int32 → Prop} {k14 : ms_St → Int32 → Int32 → Prop} {k73 : ms_St → Int32 → Int32 → Int32 → Int32 → Int32 → Prop} (ho : ms_is E o 11) (hk2 : ∀ (u : ms_St) (x2 : Int32), k2 u x2 → ms_At p l e ({ frames := 6, cells := 0, slots := 0, locals := 133 } : Room) s m args below meth c 7 G cy A L 0 0 (ms_QV below args s G cy L E A post 0 0) E u 2 [(0, .ref (L o)), (1, .int a1), (2, .int x2)] []) (hk14 : ∀ (u : ms_St) (x2 : Int32) (x3 : Int32), k14 u x2 x3 → ms_At p l e ({ frames := 6, cells := 0, slots := 0, locals := 133 } : Room) s m args below meth c 7 G cy A L 0 0 (ms_QV below args s G cy L E A post 0 0) E u 14 [(0, .ref (L o)), (1, .int a1), (2, .int x2), (3, .int x3)] []) (hk73 : ∀ (u : ms_St) (x2 : Int32) (x3 : Int32) (x4 : Int32) (x5 : Int32) (x6 : Int32), k73 u x2 x3 x4 x5 x6 → ms_At p l e ({ frames := 6, cells := 0, slots := 0, locals := 133 } : Room) s m args below meth c 7 G cy A L 0 0 (ms_QV below args s G cy L E A post 0 0) E u 73 [(0, .ref (L o)), (1, .int a1), (2, .int x2), (3, .int x3), (4, .int x4), (5, .int x5), (6, .int x6)] []) (u : ms_St) (x2 : Int32) (x3 : Int32) (x4 : Int32) (x5 : Int32) (x6 : Int32)  (h : wp_X11_findSoonest_118 E o a1 post k2 k14 k73 u x2 x3 x4 x5 x6) : ms_At p l e ({ frames := 6, cells := 0, slots := 0, locals := 133 } : Room) s m args below meth c 7 G cy A L 0 0 (ms_QV below args s G cy L E A post 0 0) E u 118 [(0, .ref (L o)), (1, .int a1), (2, .int x2), (3, .int x3), (4, .int x4), (5, .int x5), (6, .int x6)] [] := by
  unfold wp_X11_findSoonest_118 at h
  refine a_iinc (lv' := [(0, .ref (L o)), (1, .int a1), (2, .int x2), (3, .int x3), (4, .int x4), (5, .int x5), (6, .int (x6 + 1))]) (v := (x6 + 1)) C dX11_findSoonest_118 6 rfl (congrArg (fun z => x6 + z) (by decide)) (by decide) [1, 2, 3, 4, 5, 6, 0] rfl rfl ?_
  refine a_goto (tgt := 73) C dX11_findSoonest_121 (by decide) ?_
  exact hk73 u x2 x3 x4 x5 (x6 + 1)  h
def wp_X11_findSoonest_73 (E : ms_En) (o : Nat) (a1 : Int32) (post : ms_St → Prop) (k2 : ms_St → Int32 → Prop) (k14 : ms_St → Int32 → Int32 → Prop) : Nat → ms_St → Int32 → Int32 → Int32 → Int32 → Int32 → Prop
  | 0 => fun _ _ _ _ _ _ => False
  | n + 1 => fun u x2 x3 x4 x5 x6 => ((ms_I u o 27) ≤ x6 → vp_in x2 256 ∧ (vp_in x3 8 ∧ (wp_X11_findSoonest_134 E o a1 post k2 k14 (ms_sI u (ms_at E (ms_at E o 25) (Int32.toNatClampNeg x2)) (Int32.toNatClampNeg x3) x5) x2 x3))) ∧ (¬ (ms_I u o 27) ≤ x6 → (((x4 >>> (x6 &&& 31)) &&& 1) = 1 → vp_in x4 256 ∧ (vp_in x6 8 ∧ (wp_X11_goesOn E u o a1 x6 x3 (ms_I u (ms_at E (ms_at E o 25) (Int32.toNatClampNeg x4)) (Int32.toNatClampNeg x6)) (fun r110 u110 => wp_X11_min E u110 x5 r110 (fun r113 u113 => wp_X11_findSoonest_118 E o a1 post k2 k14 (wp_X11_findSoonest_73 E o a1 post k2 k14 n) u113 x2 x3 x4 r113 x6))))) ∧ (¬ ((x4 >>> (x6 &&& 31)) &&& 1) = 1 → wp_X11_findSoonest_118 E o a1 post k2 k14 (wp_X11_findSoonest_73 E o a1 post k2 k14 n) u x2 x3 x4 x5 x6))
set_option maxHeartbeats 4000000 in
set_option maxRecDepth 100000 in
theorem c_X11_findSoonest_73 {p : Program} {l : Launch} {e : Env} {s : State} {m : MethodId} {args : Array Value} {below : List Frame} {meth : Method} {c : Code} {G : va_G} {cy : Nat → ClassId} {A : Nat → Prop} {L : Nat → Nat} {E : ms_En} (C : ms_Cx p m c cX11_findSoonest 7 s args (Cond.code ⟨"CensusWalkModel", "findSoonest", "(I)V"⟩ prog_13_method_77_code 7 none) "CensusWalkModel" G cy A) (hr : meth.sig.returnType = none) (hlocks : meth.locks = false) (hE : ms_WT E) {o : Nat} {a1 : Int32} {post : ms_St → Prop} {k2 : ms_St → Int32 → Prop} {k14 : ms_St → Int32 → Int32 → Prop} (ho : ms_is E o 11) (hk2 : ∀ (u : ms_St) (x2 : Int32), k2 u x2 → ms_At p l e ({ frames := 6, cells := 0, slots := 0, locals := 133 } : Room) s m args below meth c 7 G cy A L 0 0 (ms_QV below args s G cy L E A post 0 0) E u 2 [(0, .ref (L o)), (1, .int a1), (2, .int x2)] []) (hk14 : ∀ (u : ms_St) (x2 : Int32) (x3 : Int32), k14 u x2 x3 → ms_At p l e ({ frames := 6, cells := 0, slots := 0, locals := 133 } : Room) s m args below meth c 7 G cy A L 0 0 (ms_QV below args s G cy L E A post 0 0) E u 14 [(0, .ref (L o)), (1, .int a1), (2, .int x2), (3, .int x3)] []) : ∀ (n : Nat) (u : ms_St) (x2 : Int32) (x3 : Int32) (x4 : Int32) (x5 : Int32) (x6 : Int32), wp_X11_findSoonest_73 E o a1 post k2 k14 n u x2 x3 x4 x5 x6 → ms_At p l e ({ frames := 6, cells := 0, slots := 0, locals := 133 } : Room) s m args below meth c 7 G cy A L 0 0 (ms_QV below args s G cy L E A post 0 0) E u 73 [(0, .ref (L o)), (1, .int a1), (2, .int x2), (3, .int x3), (4, .int x4), (5, .int x5), (6, .int x6)] [] := by
  intro n
  induction n with
  | zero =>
    intro u x2 x3 x4 x5 x6  h
    exact absurd h id
  | succ n ih =>
    intro u x2 x3 x4 x5 x6  h
    unfold wp_X11_findSoonest_73 at h
    refine a_iload C dX11_findSoonest_73 6 rfl rfl ?_
    refine a_aload_n C dX11_findSoonest_75 rfl 0 rfl rfl ?_
    refine g_11_27 C dX11_findSoonest_76 ho kw_6_9 rfl ?_
    refine a_icmp_ge (tgt := 124) C dX11_findSoonest_79 (by decide) rfl (fun hc => ?_) (fun hc => ?_)
    · replace h := h.1 hc
      refine a_aload_n C dX11_findSoonest_124 rfl 0 rfl rfl ?_
      refine g_11_25 C hE dX11_findSoonest_125 ho kw_6_7 rfl ?_
      have k125 : ms_is E (ms_at E o 25) 19 := ms_wt hE ho rfl (by decide)
      have n125 : ms_N E (ms_at E o 25) = 256 := ms_wl hE ho (by decide) (by decide) rfl
      refine a_iload_n C dX11_findSoonest_128 rfl 2 rfl rfl ?_
      obtain ⟨q129, h⟩ := h
      refine a_aldI C dX11_findSoonest_129 k125 (by decide) n125 q129 (hE.2.2 _ _ _ k125 (by decide) (by decide) (ms_in n125 q129)).1 rfl ?_
      have k129 : ms_is E (ms_at E (ms_at E o 25) (Int32.toNatClampNeg x2)) 13 := (hE.2.2 _ _ _ k125 (by decide) (by decide) (ms_in n125 q129)).2.1
      have n129 : ms_N E (ms_at E (ms_at E o 25) (Int32.toNatClampNeg x2)) = 8 := (hE.2.2 _ _ _ k125 (by decide) (by decide) (ms_in n125 q129)).2.2
      refine a_iload_n C dX11_findSoonest_130 rfl 3 rfl rfl ?_
      refine a_iload C dX11_findSoonest_131 5 rfl rfl ?_
      obtain ⟨q133, h⟩ := h
      refine a_iast C dX11_findSoonest_133 k129 n129 q133 rfl ?_
      refine a_sub (lv' := [(0, .ref (L o)), (1, .int a1), (2, .int x2), (3, .int x3)]) [0, 1, 2, 3] rfl ?_
      exact c_X11_findSoonest_134 C hr hlocks hE ho hk2 hk14 (ms_sI u (ms_at E (ms_at E o 25) (Int32.toNatClampNeg x2)) (Int32.toNatClampNeg x3) x5) x2 x3  h
    · replace h := h.2 hc
      refine a_iload C dX11_findSoonest_82 4 rfl rfl ?_
      refine a_iload C dX11_findSoonest_84 6 rfl rfl ?_
      refine a_ishr C dX11_findSoonest_86 rfl ?_
      refine a_iconst (v := 1) C dX11_findSoonest_87 (by decide) rfl ?_
      refine a_iand C dX11_findSoonest_88 rfl ?_
      refine a_iconst (v := 1) C dX11_findSoonest_89 (by decide) rfl ?_
      refine a_icmp_ne (tgt := 118) C dX11_findSoonest_90 (by decide) rfl (fun hc => ?_) (fun hc => ?_)
      · replace h := h.2 hc
        exact c_X11_findSoonest_118 C hr hlocks hE ho hk2 hk14 ih u x2 x3 x4 x5 x6  h
      · replace h := h.1 hc
        refine a_iload C dX11_findSoonest_93 5 rfl rfl ?_
        refine a_aload_n C dX11_findSoonest_95 rfl 0 rfl rfl ?_
        refine a_iload_n C dX11_findSoonest_96 rfl 1 rfl rfl ?_
        refine a_iload C dX11_findSoonest_97 6 rfl rfl ?_
        refine a_iload_n C dX11_findSoonest_99 rfl 3 rfl rfl ?_
        refine a_aload_n C dX11_findSoonest_100 rfl 0 rfl rfl ?_
        refine g_11_25 C hE dX11_findSoonest_101 ho kw_6_7 rfl ?_
        have k101 : ms_is E (ms_at E o 25) 19 := ms_wt hE ho rfl (by decide)
        have n101 : ms_N E (ms_at E o 25) = 256 := ms_wl hE ho (by decide) (by decide) rfl
        refine a_iload C dX11_findSoonest_104 4 rfl rfl ?_
        obtain ⟨q106, h⟩ := h
        refine a_aldI C dX11_findSoonest_106 k101 (by decide) n101 q106 (hE.2.2 _ _ _ k101 (by decide) (by decide) (ms_in n101 q106)).1 rfl ?_
        have k106 : ms_is E (ms_at E (ms_at E o 25) (Int32.toNatClampNeg x4)) 13 := (hE.2.2 _ _ _ k101 (by decide) (by decide) (ms_in n101 q106)).2.1
        have n106 : ms_N E (ms_at E (ms_at E o 25) (Int32.toNatClampNeg x4)) = 8 := (hE.2.2 _ _ _ k101 (by decide) (by decide) (ms_in n101 q106)).2.2
        refine a_iload C dX11_findSoonest_107 6 rfl rfl ?_
        obtain ⟨q109, h⟩ := h
        refine a_iald C dX11_findSoonest_109 k106 n106 q109 rfl ?_
        refine a_callVI C (c_X11_goesOn l G cy L E hE u o a1 x6 x3 (ms_I u (ms_at E (ms_at E o 25) (Int32.toNatClampNeg x4)) (Int32.toNatClampNeg x6)) ho _ h) ho rfl (by decide) kw_7_155 kw_7_157 kp_83 kw_1_12 kw_7_158 rfl rfl pd_X11_goesOn ⟨(Nat.le_of_ble_eq_true rfl), (Nat.le_of_ble_eq_true rfl)⟩ dX11_findSoonest_110 rfl (Nat.le_of_ble_eq_true rfl) ⟨(Nat.le_of_ble_eq_true rfl), (Nat.le_of_ble_eq_true rfl)⟩ rfl (fun r110 u110 h => ?_)
        refine a_callSI C (c_X11_min l G cy L E hE u110 x5 r110  _ h) kw_6_136 kw_6_137 kw_1_12 kw_6_138 rfl rfl pd_X11_min ⟨(Nat.le_of_ble_eq_true rfl), (Nat.le_of_ble_eq_true rfl)⟩ dX11_findSoonest_113 rfl (Nat.le_of_ble_eq_true rfl) ⟨(Nat.le_of_ble_eq_true rfl), (Nat.le_of_ble_eq_true rfl)⟩ rfl (fun r113 u113 h => ?_)
        refine a_istore (lv' := [(0, .ref (L o)), (1, .int a1), (2, .int x2), (3, .int x3), (4, .int x4), (5, .int r113), (6, .int x6)]) C dX11_findSoonest_116 (by decide) [1, 2, 3, 4, 5, 0, 6] rfl rfl ?_
        exact c_X11_findSoonest_118 C hr hlocks hE ho hk2 hk14 ih u113 x2 x3 x4 r113 x6  h
def wp_X11_findSoonest_68 (E : ms_En) (o : Nat) (a1 : Int32) (post : ms_St → Prop) (k2 : ms_St → Int32 → Prop) (k14 : ms_St → Int32 → Int32 → Prop) (u : ms_St) (x2 : Int32) (x3 : Int32) (x4 : Int32) (z0 : Int32) : Prop := ∃ n73, wp_X11_findSoonest_73 E o a1 post k2 k14 n73 u x2 x3 x4 z0 0
set_option maxHeartbeats 4000000 in
set_option maxRecDepth 100000 in
theorem c_X11_findSoonest_68 {p : Program} {l : Launch} {e : Env} {s : State} {m : MethodId} {args : Array Value} {below : List Frame} {meth : Method} {c : Code} {G : va_G} {cy : Nat → ClassId} {A : Nat → Prop} {L : Nat → Nat} {E : ms_En} (C : ms_Cx p m c cX11_findSoonest 7 s args (Cond.code ⟨"CensusWalkModel", "findSoonest", "(I)V"⟩ prog_13_method_77_code 7 none) "CensusWalkModel" G cy A) (hr : meth.sig.returnType = none) (hlocks : meth.locks = false) (hE : ms_WT E) {o : Nat} {a1 : Int32} {post : ms_St → Prop} {k2 : ms_St → Int32 → Prop} {k14 : ms_St → Int32 → Int32 → Prop} (ho : ms_is E o 11) (hk2 : ∀ (u : ms_St) (x2 : Int32), k2 u x2 → ms_At p l e ({ frames := 6, cells := 0, slots := 0, locals := 133 } : Room) s m args below meth c 7 G cy A L 0 0 (ms_QV below args s G cy L E A post 0 0) E u 2 [(0, .ref (L o)), (1, .int a1), (2, .int x2)] []) (hk14 : ∀ (u : ms_St) (x2 : Int32) (x3 : Int32), k14 u x2 x3 → ms_At p l e ({ frames := 6, cells := 0, slots := 0, locals := 133 } : Room) s m args below meth c 7 G cy A L 0 0 (ms_QV below args s G cy L E A post 0 0) E u 14 [(0, .ref (L o)), (1, .int a1), (2, .int x2), (3, .int x3)] []) (u : ms_St) (x2 : Int32) (x3 : Int32) (x4 : Int32) (z0 : Int32)  (h : wp_X11_findSoonest_68 E o a1 post k2 k14 u x2 x3 x4 z0) : ms_At p l e ({ frames := 6, cells := 0, slots := 0, locals := 133 } : Room) s m args below meth c 7 G cy A L 0 0 (ms_QV below args s G cy L E A post 0 0) E u 68 [(0, .ref (L o)), (1, .int a1), (2, .int x2), (3, .int x3), (4, .int x4)] [.int z0] := by
  unfold wp_X11_findSoonest_68 at h
  refine a_istore (lv' := [(0, .ref (L o)), (1, .int a1), (2, .int x2), (3, .int x3), (4, .int x4), (5, .int z0)]) C dX11_findSoonest_68 (by decide) [1, 2, 3, 4, 5, 0] rfl rfl ?_
  refine a_iconst (v := 0) C dX11_findSoonest_70 (by decide) rfl ?_
  refine a_istore (lv' := [(0, .ref (L o)), (1, .int a1), (2, .int x2), (3, .int x3), (4, .int x4), (5, .int z0), (6, .int 0)]) C dX11_findSoonest_71 (by decide) [1, 2, 3, 4, 5, 6, 0] rfl rfl ?_
  obtain ⟨n9, h⟩ := h
  exact c_X11_findSoonest_73 C hr hlocks hE ho hk2 hk14 n9 u x2 x3 x4 z0 0  h
def wp_X11_findSoonest_14 (E : ms_En) (o : Nat) (a1 : Int32) (post : ms_St → Prop) (k2 : ms_St → Int32 → Prop) : Nat → ms_St → Int32 → Int32 → Prop
  | 0 => fun _ _ _ => False
  | n + 1 => fun u x2 x3 => ((ms_I u o 27) ≤ x3 → k2 u (x2 + 1)) ∧ (¬ (ms_I u o 27) ≤ x3 → (((x2 >>> (x3 &&& 31)) &&& 1) = 0 → wp_X11_findSoonest_134 E o a1 post k2 (wp_X11_findSoonest_14 E o a1 post k2 n) u x2 x3) ∧ (¬ ((x2 >>> (x3 &&& 31)) &&& 1) = 0 → ∀ v38 : Int32, v38 = (x2 - (1 <<< (x3 &&& 31))) → ((v38 = 0 → wp_X11_walker E u a1 (fun r54 u54 => vp_in (r54 + 1) 1613 ∧ (wp_X11_goesOn E u54 o a1 (-1) x3 (ms_I u54 (ms_at E o 8) (Int32.toNatClampNeg (r54 + 1))) (fun r60 u60 => wp_X11_findSoonest_68 E o a1 post k2 (wp_X11_findSoonest_14 E o a1 post k2 n) u60 x2 x3 v38 r60)))) ∧ (¬ v38 = 0 → wp_X11_findSoonest_68 E o a1 post k2 (wp_X11_findSoonest_14 E o a1 post k2 n) u x2 x3 v38 1000000))))
set_option maxHeartbeats 4000000 in
set_option maxRecDepth 100000 in
theorem c_X11_findSoonest_14 {p : Program} {l : Launch} {e : Env} {s : State} {m : MethodId} {args : Array Value} {below : List Frame} {meth : Method} {c : Code} {G : va_G} {cy : Nat → ClassId} {A : Nat → Prop} {L : Nat → Nat} {E : ms_En} (C : ms_Cx p m c cX11_findSoonest 7 s args (Cond.code ⟨"CensusWalkModel", "findSoonest", "(I)V"⟩ prog_13_method_77_code 7 none) "CensusWalkModel" G cy A) (hr : meth.sig.returnType = none) (hlocks : meth.locks = false) (hE : ms_WT E) {o : Nat} {a1 : Int32} {post : ms_St → Prop} {k2 : ms_St → Int32 → Prop} (ho : ms_is E o 11) (hk2 : ∀ (u : ms_St) (x2 : Int32), k2 u x2 → ms_At p l e ({ frames := 6, cells := 0, slots := 0, locals := 133 } : Room) s m args below meth c 7 G cy A L 0 0 (ms_QV below args s G cy L E A post 0 0) E u 2 [(0, .ref (L o)), (1, .int a1), (2, .int x2)] []) : ∀ (n : Nat) (u : ms_St) (x2 : Int32) (x3 : Int32), wp_X11_findSoonest_14 E o a1 post k2 n u x2 x3 → ms_At p l e ({ frames := 6, cells := 0, slots := 0, locals := 133 } : Room) s m args below meth c 7 G cy A L 0 0 (ms_QV below args s G cy L E A post 0 0) E u 14 [(0, .ref (L o)), (1, .int a1), (2, .int x2), (3, .int x3)] [] := by
  intro n
  induction n with
  | zero =>
    intro u x2 x3  h
    exact absurd h id
  | succ n ih =>
    intro u x2 x3  h
    unfold wp_X11_findSoonest_14 at h
    refine a_iload_n C dX11_findSoonest_14 rfl 3 rfl rfl ?_
    refine a_aload_n C dX11_findSoonest_15 rfl 0 rfl rfl ?_
    refine g_11_27 C dX11_findSoonest_16 ho kw_6_9 rfl ?_
    refine a_icmp_ge (tgt := 140) C dX11_findSoonest_19 (by decide) rfl (fun hc => ?_) (fun hc => ?_)
    · replace h := h.1 hc
      refine a_iinc (lv' := [(0, .ref (L o)), (1, .int a1), (2, .int (x2 + 1)), (3, .int x3)]) (v := (x2 + 1)) C dX11_findSoonest_140 2 rfl (congrArg (fun z => x2 + z) (by decide)) (by decide) [1, 2, 0, 3] rfl rfl ?_
      refine a_goto (tgt := 2) C dX11_findSoonest_143 (by decide) ?_
      refine a_sub (lv' := [(0, .ref (L o)), (1, .int a1), (2, .int (x2 + 1))]) [0, 1, 2] rfl ?_
      exact hk2 u (x2 + 1)  h
    · replace h := h.2 hc
      refine a_iload_n C dX11_findSoonest_22 rfl 2 rfl rfl ?_
      refine a_iload_n C dX11_findSoonest_23 rfl 3 rfl rfl ?_
      refine a_ishr C dX11_findSoonest_24 rfl ?_
      refine a_iconst (v := 1) C dX11_findSoonest_25 (by decide) rfl ?_
      refine a_iand C dX11_findSoonest_26 rfl ?_
      refine a_if_ne (tgt := 33) C dX11_findSoonest_27 (by decide) rfl (fun hc => ?_) (fun hc => ?_)
      · replace h := h.2 hc
        refine a_iload_n C dX11_findSoonest_33 rfl 2 rfl rfl ?_
        refine a_iconst (v := 1) C dX11_findSoonest_34 (by decide) rfl ?_
        refine a_iload_n C dX11_findSoonest_35 rfl 3 rfl rfl ?_
        refine a_ishl C dX11_findSoonest_36 rfl ?_
        refine a_isub C dX11_findSoonest_37 rfl ?_
        refine a_nmI (fun v38 e38 => ?_)
        replace h := h v38 e38
        refine a_istore (lv' := [(0, .ref (L o)), (1, .int a1), (2, .int x2), (3, .int x3), (4, .int v38)]) C dX11_findSoonest_38 (by decide) [1, 2, 3, 4, 0] rfl rfl ?_
        refine a_iload C dX11_findSoonest_40 4 rfl rfl ?_
        refine a_if_ne (tgt := 66) C dX11_findSoonest_42 (by decide) rfl (fun hc => ?_) (fun hc => ?_)
        · replace h := h.2 hc
          refine a_ldc (v := 1000000) C dX11_findSoonest_66 kw_6_135 rfl ?_
          exact c_X11_findSoonest_68 C hr hlocks hE ho hk2 ih u x2 x3 v38 1000000  h
        · replace h := h.1 hc
          refine a_aload_n C dX11_findSoonest_45 rfl 0 rfl rfl ?_
          refine a_iload_n C dX11_findSoonest_46 rfl 1 rfl rfl ?_
          refine a_iconst (v := (-1)) C dX11_findSoonest_47 (by decide) rfl ?_
          refine a_iload_n C dX11_findSoonest_48 rfl 3 rfl rfl ?_
          refine a_aload_n C dX11_findSoonest_49 rfl 0 rfl rfl ?_
          refine g_11_8 C hE dX11_findSoonest_50 ho kw_5_230 rfl ?_
          have k50 : ms_is E (ms_at E o 8) 13 := ms_wt hE ho rfl (by decide)
          have n50 : ms_N E (ms_at E o 8) = 1613 := ms_wl hE ho (by decide) (by decide) rfl
          refine a_iload_n C dX11_findSoonest_53 rfl 1 rfl rfl ?_
          refine a_callSI C (c_X11_walker l G cy L E hE u a1  _ h) kw_6_169 kw_6_170 kw_1_12 kw_6_171 rfl rfl pd_X11_walker ⟨(Nat.le_of_ble_eq_true rfl), (Nat.le_of_ble_eq_true rfl)⟩ dX11_findSoonest_54 rfl (Nat.le_of_ble_eq_true rfl) ⟨(Nat.le_of_ble_eq_true rfl), (Nat.le_of_ble_eq_true rfl)⟩ rfl (fun r54 u54 h => ?_)
          refine a_iconst (v := 1) C dX11_findSoonest_57 (by decide) rfl ?_
          refine a_iadd C dX11_findSoonest_58 rfl ?_
          obtain ⟨q59, h⟩ := h
          refine a_iald C dX11_findSoonest_59 k50 n50 q59 rfl ?_
          refine a_callVI C (c_X11_goesOn l G cy L E hE u54 o a1 (-1) x3 (ms_I u54 (ms_at E o 8) (Int32.toNatClampNeg (r54 + 1))) ho _ h) ho rfl (by decide) kw_7_155 kw_7_157 kp_83 kw_1_12 kw_7_158 rfl rfl pd_X11_goesOn ⟨(Nat.le_of_ble_eq_true rfl), (Nat.le_of_ble_eq_true rfl)⟩ dX11_findSoonest_60 rfl (Nat.le_of_ble_eq_true rfl) ⟨(Nat.le_of_ble_eq_true rfl), (Nat.le_of_ble_eq_true rfl)⟩ rfl (fun r60 u60 h => ?_)
          refine a_goto (tgt := 68) C dX11_findSoonest_63 (by decide) ?_
          exact c_X11_findSoonest_68 C hr hlocks hE ho hk2 ih u60 x2 x3 v38 r60  h
      · replace h := h.1 hc
        refine a_goto (tgt := 134) C dX11_findSoonest_30 (by decide) ?_
        exact c_X11_findSoonest_134 C hr hlocks hE ho hk2 ih u x2 x3  h
def wp_X11_findSoonest_2 (E : ms_En) (o : Nat) (a1 : Int32) (post : ms_St → Prop)  : Nat → ms_St → Int32 → Prop
  | 0 => fun _ _ => False
  | n + 1 => fun u x2 => ((1 <<< ((ms_I u o 27) &&& 31)) ≤ x2 → post u) ∧ (¬ (1 <<< ((ms_I u o 27) &&& 31)) ≤ x2 → ∃ n14, wp_X11_findSoonest_14 E o a1 post (wp_X11_findSoonest_2 E o a1 post n) n14 u x2 0)
set_option maxHeartbeats 4000000 in
set_option maxRecDepth 100000 in
theorem c_X11_findSoonest_2 {p : Program} {l : Launch} {e : Env} {s : State} {m : MethodId} {args : Array Value} {below : List Frame} {meth : Method} {c : Code} {G : va_G} {cy : Nat → ClassId} {A : Nat → Prop} {L : Nat → Nat} {E : ms_En} (C : ms_Cx p m c cX11_findSoonest 7 s args (Cond.code ⟨"CensusWalkModel", "findSoonest", "(I)V"⟩ prog_13_method_77_code 7 none) "CensusWalkModel" G cy A) (hr : meth.sig.returnType = none) (hlocks : meth.locks = false) (hE : ms_WT E) {o : Nat} {a1 : Int32} {post : ms_St → Prop}  (ho : ms_is E o 11)  : ∀ (n : Nat) (u : ms_St) (x2 : Int32), wp_X11_findSoonest_2 E o a1 post n u x2 → ms_At p l e ({ frames := 6, cells := 0, slots := 0, locals := 133 } : Room) s m args below meth c 7 G cy A L 0 0 (ms_QV below args s G cy L E A post 0 0) E u 2 [(0, .ref (L o)), (1, .int a1), (2, .int x2)] [] := by
  intro n
  induction n with
  | zero =>
    intro u x2  h
    exact absurd h id
  | succ n ih =>
    intro u x2  h
    unfold wp_X11_findSoonest_2 at h
    refine a_iload_n C dX11_findSoonest_2 rfl 2 rfl rfl ?_
    refine a_iconst (v := 1) C dX11_findSoonest_3 (by decide) rfl ?_
    refine a_aload_n C dX11_findSoonest_4 rfl 0 rfl rfl ?_
    refine g_11_27 C dX11_findSoonest_5 ho kw_6_9 rfl ?_
    refine a_ishl C dX11_findSoonest_8 rfl ?_
    refine a_icmp_ge (tgt := 146) C dX11_findSoonest_9 (by decide) rfl (fun hc => ?_) (fun hc => ?_)
    · replace h := h.1 hc
      exact a_vret C dX11_findSoonest_146 hr hlocks (Nat.le_of_ble_eq_true rfl) (Nat.le_of_ble_eq_true rfl) h
    · replace h := h.2 hc
      refine a_iconst (v := 0) C dX11_findSoonest_12 (by decide) rfl ?_
      refine a_istore_n (lv' := [(0, .ref (L o)), (1, .int a1), (2, .int x2), (3, .int 0)]) C dX11_findSoonest_13 rfl (by decide) [1, 2, 3, 0] rfl rfl ?_
      obtain ⟨n9, h⟩ := h
      exact c_X11_findSoonest_14 C hr hlocks hE ho ih n9 u x2 0  h
def wp_X11_findSoonest (E : ms_En) (u : ms_St) (o : Nat) (a1 : Int32) (post : ms_St → Prop) : Prop := ∃ n2, wp_X11_findSoonest_2 E o a1 post n2 u 1
set_option maxHeartbeats 4000000 in
set_option maxRecDepth 100000 in
theorem c_X11_findSoonest (l : Launch) (G : va_G) (cy : Nat → ClassId) (L : Nat → Nat) (E : ms_En) (hE : ms_WT E) (u : ms_St) (o : Nat) (a1 : Int32) (ho : ms_is E o 11) (post : ms_St → Prop) (h : wp_X11_findSoonest E u o a1 post) : ms_MetV l ⟨"CensusWalkModel", "findSoonest", "(I)V"⟩ (Cond.code ⟨"CensusWalkModel", "findSoonest", "(I)V"⟩ prog_13_method_77_code 7 none :: lw_g) ({ frames := 6, cells := 0, slots := 0, locals := 133 } : Room) G cy L E [.ref (L o), .int a1] u post 0 0 := by
  refine ms_enterV (lv := [(0, .ref (L o)), (1, .int a1)]) (by decide) (Nat.le_of_ble_eq_true rfl) rfl ?_
  intro p e s m args below meth c A C hr hlocks
  unfold wp_X11_findSoonest at h
  refine a_iconst (v := 1) C dX11_findSoonest_0 (by decide) rfl ?_
  refine a_istore_n (lv' := [(0, .ref (L o)), (1, .int a1), (2, .int 1)]) C dX11_findSoonest_1 rfl (by decide) [1, 2, 0] rfl rfl ?_
  obtain ⟨n9, h⟩ := h
  exact c_X11_findSoonest_2 C hr hlocks hE ho  n9 u 1  h

/-! CensusWalkModel.soonestOf(II)I -/
theorem pd_X11_soonestOf : (⟨"CensusWalkModel", "soonestOf", "(II)I"⟩ : MethodName).cls = "CensusWalkModel" ∧ (⟨"CensusWalkModel", "soonestOf", "(II)I"⟩ : MethodName).cls ≠ "java/lang/invoke/MethodHandle" ∧ (⟨"CensusWalkModel", "soonestOf", "(II)I"⟩ : MethodName).cls ≠ "java/lang/invoke/VarHandle" ∧ (parseMethodDescriptor (⟨"CensusWalkModel", "soonestOf", "(II)I"⟩ : MethodName).desc).map (fun d => d.parameters.length) = some 2 := by decide +kernel
def wp_X11_soonestOf_57 (E : ms_En) (o : Nat) (a1 : Int32) (a2 : Int32) (post : Int32 → ms_St → Prop) (k24 : ms_St → Int32 → Int32 → Prop) (u : ms_St) (x3 : Int32) (x4 : Int32) : Prop := k24 u x3 (x4 + 1)
set_option maxHeartbeats 4000000 in
set_option maxRecDepth 100000 in
theorem c_X11_soonestOf_57 {p : Program} {l : Launch} {e : Env} {s : State} {m : MethodId} {args : Array Value} {below : List Frame} {meth : Method} {c : Code} {G : va_G} {cy : Nat → ClassId} {A : Nat → Prop} {L : Nat → Nat} {E : ms_En} (C : ms_Cx p m c cX11_soonestOf 5 s args (Cond.code ⟨"CensusWalkModel", "soonestOf", "(II)I"⟩ prog_13_method_78_code 5 (some .int)) "CensusWalkModel" G cy A) (hr : meth.sig.returnType = (some .int)) (hlocks : meth.locks = false) (hE : ms_WT E) {o : Nat} {a1 : Int32} {a2 : Int32} {post : Int32 → ms_St → Prop} {k24 : ms_St → Int32 → Int32 → Prop} (ho : ms_is E o 11) (hk24 : ∀ (u : ms_St) (x3 : Int32) (x4 : Int32), k24 u x3 x4 → ms_At p l e ({ frames := 1, cells := 0, slots := 0, locals := 21 } : Room) s m args below meth c 5 G cy A L 0 0 (ms_QI below args s G cy L E A post 0 0) E u 24 [(0, .ref (L o)), (2, .int a2), (3, .int x3), (4, .int x4)] []) (u : ms_St) (x3 : Int32) (x4 : Int32)  (h : wp_X11_soonestOf_57 E o a1 a2 post k24 u x3 x4) : ms_At p l e ({ frames := 1, cells := 0, slots := 0, locals := 21 } : Room) s m args below meth c 5 G cy A L 0 0 (ms_QI below args s G cy L E A post 0 0) E u 57 [(0, .ref (L o)), (2, .int a2), (3, .int x3), (4, .int x4)] [] := by
  unfold wp_X11_soonestOf_57 at h
  refine a_iinc (lv' := [(0, .ref (L o)), (2, .int a2), (3, .int x3), (4, .int (x4 + 1))]) (v := (x4 + 1)) C dX11_soonestOf_57 3 rfl (congrArg (fun z => x4 + z) (by decide)) (by decide) [1, 2, 3, 0] rfl rfl ?_
  refine a_goto (tgt := 24) C dX11_soonestOf_60 (by decide) ?_
  exact hk24 u x3 (x4 + 1)  h
def wp_X11_soonestOf_24 (E : ms_En) (o : Nat) (a1 : Int32) (a2 : Int32) (post : Int32 → ms_St → Prop)  : Nat → ms_St → Int32 → Int32 → Prop
  | 0 => fun _ _ _ => False
  | n + 1 => fun u x3 x4 => ((ms_I u o 27) ≤ x4 → post x3 u) ∧ (¬ (ms_I u o 27) ≤ x4 → (((a2 >>> (x4 &&& 31)) &&& 1) = 1 → vp_in a2 256 ∧ (vp_in x4 8 ∧ (wp_X11_min E u x3 (ms_I u (ms_at E (ms_at E o 25) (Int32.toNatClampNeg a2)) (Int32.toNatClampNeg x4)) (fun r53 u53 => wp_X11_soonestOf_57 E o a1 a2 post (wp_X11_soonestOf_24 E o a1 a2 post n) u53 r53 x4)))) ∧ (¬ ((a2 >>> (x4 &&& 31)) &&& 1) = 1 → wp_X11_soonestOf_57 E o a1 a2 post (wp_X11_soonestOf_24 E o a1 a2 post n) u x3 x4))
set_option maxHeartbeats 4000000 in
set_option maxRecDepth 100000 in
theorem c_X11_soonestOf_24 {p : Program} {l : Launch} {e : Env} {s : State} {m : MethodId} {args : Array Value} {below : List Frame} {meth : Method} {c : Code} {G : va_G} {cy : Nat → ClassId} {A : Nat → Prop} {L : Nat → Nat} {E : ms_En} (C : ms_Cx p m c cX11_soonestOf 5 s args (Cond.code ⟨"CensusWalkModel", "soonestOf", "(II)I"⟩ prog_13_method_78_code 5 (some .int)) "CensusWalkModel" G cy A) (hr : meth.sig.returnType = (some .int)) (hlocks : meth.locks = false) (hE : ms_WT E) {o : Nat} {a1 : Int32} {a2 : Int32} {post : Int32 → ms_St → Prop}  (ho : ms_is E o 11)  : ∀ (n : Nat) (u : ms_St) (x3 : Int32) (x4 : Int32), wp_X11_soonestOf_24 E o a1 a2 post n u x3 x4 → ms_At p l e ({ frames := 1, cells := 0, slots := 0, locals := 21 } : Room) s m args below meth c 5 G cy A L 0 0 (ms_QI below args s G cy L E A post 0 0) E u 24 [(0, .ref (L o)), (2, .int a2), (3, .int x3), (4, .int x4)] [] := by
  intro n
  induction n with
  | zero =>
    intro u x3 x4  h
    exact absurd h id
  | succ n ih =>
    intro u x3 x4  h
    unfold wp_X11_soonestOf_24 at h
    refine a_iload C dX11_soonestOf_24 3 rfl rfl ?_
    refine a_aload_n C dX11_soonestOf_26 rfl 0 rfl rfl ?_
    refine g_11_27 C dX11_soonestOf_27 ho kw_6_9 rfl ?_
    refine a_icmp_ge (tgt := 63) C dX11_soonestOf_30 (by decide) rfl (fun hc => ?_) (fun hc => ?_)
    · replace h := h.1 hc
      refine a_iload_n C dX11_soonestOf_63 rfl 2 rfl rfl ?_
      exact a_iret C dX11_soonestOf_64 hr hlocks (Nat.le_of_ble_eq_true rfl) (Nat.le_of_ble_eq_true rfl) h
    · replace h := h.2 hc
      refine a_iload_n C dX11_soonestOf_33 rfl 1 rfl rfl ?_
      refine a_iload C dX11_soonestOf_34 3 rfl rfl ?_
      refine a_ishr C dX11_soonestOf_36 rfl ?_
      refine a_iconst (v := 1) C dX11_soonestOf_37 (by decide) rfl ?_
      refine a_iand C dX11_soonestOf_38 rfl ?_
      refine a_iconst (v := 1) C dX11_soonestOf_39 (by decide) rfl ?_
      refine a_icmp_ne (tgt := 57) C dX11_soonestOf_40 (by decide) rfl (fun hc => ?_) (fun hc => ?_)
      · replace h := h.2 hc
        exact c_X11_soonestOf_57 C hr hlocks hE ho ih u x3 x4  h
      · replace h := h.1 hc
        refine a_iload_n C dX11_soonestOf_43 rfl 2 rfl rfl ?_
        refine a_aload_n C dX11_soonestOf_44 rfl 0 rfl rfl ?_
        refine g_11_25 C hE dX11_soonestOf_45 ho kw_6_7 rfl ?_
        have k45 : ms_is E (ms_at E o 25) 19 := ms_wt hE ho rfl (by decide)
        have n45 : ms_N E (ms_at E o 25) = 256 := ms_wl hE ho (by decide) (by decide) rfl
        refine a_iload_n C dX11_soonestOf_48 rfl 1 rfl rfl ?_
        obtain ⟨q49, h⟩ := h
        refine a_aldI C dX11_soonestOf_49 k45 (by decide) n45 q49 (hE.2.2 _ _ _ k45 (by decide) (by decide) (ms_in n45 q49)).1 rfl ?_
        have k49 : ms_is E (ms_at E (ms_at E o 25) (Int32.toNatClampNeg a2)) 13 := (hE.2.2 _ _ _ k45 (by decide) (by decide) (ms_in n45 q49)).2.1
        have n49 : ms_N E (ms_at E (ms_at E o 25) (Int32.toNatClampNeg a2)) = 8 := (hE.2.2 _ _ _ k45 (by decide) (by decide) (ms_in n45 q49)).2.2
        refine a_iload C dX11_soonestOf_50 3 rfl rfl ?_
        obtain ⟨q52, h⟩ := h
        refine a_iald C dX11_soonestOf_52 k49 n49 q52 rfl ?_
        refine a_callSI C (c_X11_min l G cy L E hE u x3 (ms_I u (ms_at E (ms_at E o 25) (Int32.toNatClampNeg a2)) (Int32.toNatClampNeg x4))  _ h) kw_6_136 kw_6_137 kw_1_12 kw_6_138 rfl rfl pd_X11_min ⟨(Nat.le_of_ble_eq_true rfl), (Nat.le_of_ble_eq_true rfl)⟩ dX11_soonestOf_53 rfl (Nat.le_of_ble_eq_true rfl) ⟨(Nat.le_of_ble_eq_true rfl), (Nat.le_of_ble_eq_true rfl)⟩ rfl (fun r53 u53 h => ?_)
        refine a_istore_n (lv' := [(0, .ref (L o)), (2, .int a2), (3, .int r53), (4, .int x4)]) C dX11_soonestOf_56 rfl (by decide) [1, 2, 0, 3] rfl rfl ?_
        exact c_X11_soonestOf_57 C hr hlocks hE ho ih u53 r53 x4  h
def wp_X11_soonestOf_20 (E : ms_En) (o : Nat) (a1 : Int32) (a2 : Int32) (post : Int32 → ms_St → Prop)  (u : ms_St) (z0 : Int32) : Prop := ∃ n24, wp_X11_soonestOf_24 E o a1 a2 post n24 u z0 0
set_option maxHeartbeats 4000000 in
set_option maxRecDepth 100000 in
theorem c_X11_soonestOf_20 {p : Program} {l : Launch} {e : Env} {s : State} {m : MethodId} {args : Array Value} {below : List Frame} {meth : Method} {c : Code} {G : va_G} {cy : Nat → ClassId} {A : Nat → Prop} {L : Nat → Nat} {E : ms_En} (C : ms_Cx p m c cX11_soonestOf 5 s args (Cond.code ⟨"CensusWalkModel", "soonestOf", "(II)I"⟩ prog_13_method_78_code 5 (some .int)) "CensusWalkModel" G cy A) (hr : meth.sig.returnType = (some .int)) (hlocks : meth.locks = false) (hE : ms_WT E) {o : Nat} {a1 : Int32} {a2 : Int32} {post : Int32 → ms_St → Prop}  (ho : ms_is E o 11)  (u : ms_St) (z0 : Int32)  (h : wp_X11_soonestOf_20 E o a1 a2 post u z0) : ms_At p l e ({ frames := 1, cells := 0, slots := 0, locals := 21 } : Room) s m args below meth c 5 G cy A L 0 0 (ms_QI below args s G cy L E A post 0 0) E u 20 [(0, .ref (L o)), (2, .int a2)] [.int z0] := by
  unfold wp_X11_soonestOf_20 at h
  refine a_istore_n (lv' := [(0, .ref (L o)), (2, .int a2), (3, .int z0)]) C dX11_soonestOf_20 rfl (by decide) [1, 2, 0] rfl rfl ?_
  refine a_iconst (v := 0) C dX11_soonestOf_21 (by decide) rfl ?_
  refine a_istore (lv' := [(0, .ref (L o)), (2, .int a2), (3, .int z0), (4, .int 0)]) C dX11_soonestOf_22 (by decide) [1, 2, 3, 0] rfl rfl ?_
  obtain ⟨n9, h⟩ := h
  exact c_X11_soonestOf_24 C hr hlocks hE ho  n9 u z0 0  h
def wp_X11_soonestOf (E : ms_En) (u : ms_St) (o : Nat) (a1 : Int32) (a2 : Int32) (post : Int32 → ms_St → Prop) : Prop := (a2 = 0 → wp_X11_walker E u a1 (fun r9 u9 => vp_in (r9 + 1) 1613 ∧ (wp_X11_soonestOf_20 E o a1 a2 post u9 (ms_I u9 (ms_at E o 8) (Int32.toNatClampNeg (r9 + 1)))))) ∧ (¬ a2 = 0 → wp_X11_soonestOf_20 E o a1 a2 post u 1000000)
set_option maxHeartbeats 4000000 in
set_option maxRecDepth 100000 in
theorem c_X11_soonestOf (l : Launch) (G : va_G) (cy : Nat → ClassId) (L : Nat → Nat) (E : ms_En) (hE : ms_WT E) (u : ms_St) (o : Nat) (a1 : Int32) (a2 : Int32) (ho : ms_is E o 11) (post : Int32 → ms_St → Prop) (h : wp_X11_soonestOf E u o a1 a2 post) : ms_MetI l ⟨"CensusWalkModel", "soonestOf", "(II)I"⟩ (Cond.code ⟨"CensusWalkModel", "soonestOf", "(II)I"⟩ prog_13_method_78_code 5 (some .int) :: lw_g) ({ frames := 1, cells := 0, slots := 0, locals := 21 } : Room) G cy L E [.ref (L o), .int a1, .int a2] u post 0 0 := by
  refine ms_enterI (lv := [(0, .ref (L o)), (1, .int a1), (2, .int a2)]) (by decide) (Nat.le_of_ble_eq_true rfl) rfl ?_
  intro p e s m args below meth c A C hr hlocks
  unfold wp_X11_soonestOf at h
  refine a_iload_n C dX11_soonestOf_0 rfl 2 rfl rfl ?_
  refine a_if_ne (tgt := 18) C dX11_soonestOf_1 (by decide) rfl (fun hc => ?_) (fun hc => ?_)
  · replace h := h.2 hc
    refine a_ldc (v := 1000000) C dX11_soonestOf_18 kw_6_135 rfl ?_
    refine a_sub (lv' := [(0, .ref (L o)), (2, .int a2)]) [0, 2] rfl ?_
    exact c_X11_soonestOf_20 C hr hlocks hE ho  u 1000000  h
  · replace h := h.1 hc
    refine a_aload_n C dX11_soonestOf_4 rfl 0 rfl rfl ?_
    refine g_11_8 C hE dX11_soonestOf_5 ho kw_5_230 rfl ?_
    have k5 : ms_is E (ms_at E o 8) 13 := ms_wt hE ho rfl (by decide)
    have n5 : ms_N E (ms_at E o 8) = 1613 := ms_wl hE ho (by decide) (by decide) rfl
    refine a_iload_n C dX11_soonestOf_8 rfl 1 rfl rfl ?_
    refine a_callSI C (c_X11_walker l G cy L E hE u a1  _ h) kw_6_169 kw_6_170 kw_1_12 kw_6_171 rfl rfl pd_X11_walker ⟨(Nat.le_of_ble_eq_true rfl), (Nat.le_of_ble_eq_true rfl)⟩ dX11_soonestOf_9 rfl (Nat.le_of_ble_eq_true rfl) ⟨(Nat.le_of_ble_eq_true rfl), (Nat.le_of_ble_eq_true rfl)⟩ rfl (fun r9 u9 h => ?_)
    refine a_iconst (v := 1) C dX11_soonestOf_12 (by decide) rfl ?_
    refine a_iadd C dX11_soonestOf_13 rfl ?_
    obtain ⟨q14, h⟩ := h
    refine a_iald C dX11_soonestOf_14 k5 n5 q14 rfl ?_
    refine a_goto (tgt := 20) C dX11_soonestOf_15 (by decide) ?_
    refine a_sub (lv' := [(0, .ref (L o)), (2, .int a2)]) [0, 2] rfl ?_
    exact c_X11_soonestOf_20 C hr hlocks hE ho  u9 (ms_I u9 (ms_at E o 8) (Int32.toNatClampNeg (r9 + 1)))  h

/-! CensusWalkModel.soonest(II)I -/
theorem pd_X11_soonest : (⟨"CensusWalkModel", "soonest", "(II)I"⟩ : MethodName).cls = "CensusWalkModel" ∧ (⟨"CensusWalkModel", "soonest", "(II)I"⟩ : MethodName).cls ≠ "java/lang/invoke/MethodHandle" ∧ (⟨"CensusWalkModel", "soonest", "(II)I"⟩ : MethodName).cls ≠ "java/lang/invoke/VarHandle" ∧ (parseMethodDescriptor (⟨"CensusWalkModel", "soonest", "(II)I"⟩ : MethodName).desc).map (fun d => d.parameters.length) = some 2 := by decide +kernel
def wp_X11_soonest_34 (E : ms_En) (o : Nat) (a1 : Int32) (a2 : Int32) (post : Int32 → ms_St → Prop)  (u : ms_St)  : Prop := post 0 u
set_option maxHeartbeats 4000000 in
set_option maxRecDepth 100000 in
theorem c_X11_soonest_34 {p : Program} {l : Launch} {e : Env} {s : State} {m : MethodId} {args : Array Value} {below : List Frame} {meth : Method} {c : Code} {G : va_G} {cy : Nat → ClassId} {A : Nat → Prop} {L : Nat → Nat} {E : ms_En} (C : ms_Cx p m c cX11_soonest 3 s args (Cond.code ⟨"CensusWalkModel", "soonest", "(II)I"⟩ prog_13_method_79_code 3 (some .int)) "CensusWalkModel" G cy A) (hr : meth.sig.returnType = (some .int)) (hlocks : meth.locks = false) (hE : ms_WT E) {o : Nat} {a1 : Int32} {a2 : Int32} {post : Int32 → ms_St → Prop}  (ho : ms_is E o 11)  (u : ms_St)   (h : wp_X11_soonest_34 E o a1 a2 post u ) : ms_At p l e ({ frames := 7, cells := 0, slots := 0, locals := 159 } : Room) s m args below meth c 3 G cy A L 0 0 (ms_QI below args s G cy L E A post 0 0) E u 34 [] [] := by
  unfold wp_X11_soonest_34 at h
  refine a_iconst (v := 0) C dX11_soonest_34 (by decide) rfl ?_
  exact a_iret C dX11_soonest_35 hr hlocks (Nat.le_of_ble_eq_true rfl) (Nat.le_of_ble_eq_true rfl) h
def wp_X11_soonest_27 (E : ms_En) (o : Nat) (a1 : Int32) (a2 : Int32) (post : Int32 → ms_St → Prop)  (u : ms_St) (z0 : Int32) (z1 : Nat) : Prop := wp_X11_fails E u z1 z0 2 (fun r28 u28 => (r28 = 0 → wp_X11_findWays E u28 o (fun u37 => wp_X11_lays E u37 o a2 (fun u42 => wp_X11_findSoonest E u42 o a1 (fun u47 => wp_X11_soonestOf E u47 o a1 ((1 <<< ((ms_I u47 o 27) &&& 31)) - 1) (fun r60 u60 => wp_X11_told E u60 r60 (fun r63 u63 => post r63 u63)))))) ∧ (¬ r28 = 0 → wp_X11_soonest_34 E o a1 a2 post u28))
set_option maxHeartbeats 4000000 in
set_option maxRecDepth 100000 in
theorem c_X11_soonest_27 {p : Program} {l : Launch} {e : Env} {s : State} {m : MethodId} {args : Array Value} {below : List Frame} {meth : Method} {c : Code} {G : va_G} {cy : Nat → ClassId} {A : Nat → Prop} {L : Nat → Nat} {E : ms_En} (C : ms_Cx p m c cX11_soonest 3 s args (Cond.code ⟨"CensusWalkModel", "soonest", "(II)I"⟩ prog_13_method_79_code 3 (some .int)) "CensusWalkModel" G cy A) (hr : meth.sig.returnType = (some .int)) (hlocks : meth.locks = false) (hE : ms_WT E) {o : Nat} {a1 : Int32} {a2 : Int32} {post : Int32 → ms_St → Prop}  (ho : ms_is E o 11)  (u : ms_St) (z0 : Int32) (z1 : Nat) (k_z1 : ms_is E z1 11) (h : wp_X11_soonest_27 E o a1 a2 post u z0 z1) : ms_At p l e ({ frames := 7, cells := 0, slots := 0, locals := 159 } : Room) s m args below meth c 3 G cy A L 0 0 (ms_QI below args s G cy L E A post 0 0) E u 27 [(0, .ref (L o)), (1, .int a1), (2, .int a2)] [.int z0, .ref (L z1)] := by
  unfold wp_X11_soonest_27 at h
  refine a_iconst (v := 2) C dX11_soonest_27 (by decide) rfl ?_
  refine a_callVI C (c_X11_fails l G cy L E hE u z1 z0 2 k_z1 _ h) k_z1 rfl (by decide) kw_6_101 kw_6_103 kp_43 kw_1_12 kw_6_104 rfl rfl pd_X11_fails ⟨(Nat.le_of_ble_eq_true rfl), (Nat.le_of_ble_eq_true rfl)⟩ dX11_soonest_28 rfl (Nat.le_of_ble_eq_true rfl) ⟨(Nat.le_of_ble_eq_true rfl), (Nat.le_of_ble_eq_true rfl)⟩ rfl (fun r28 u28 h => ?_)
  refine a_if_eq (tgt := 36) C dX11_soonest_31 (by decide) rfl (fun hc => ?_) (fun hc => ?_)
  · replace h := h.1 hc
    refine a_aload_n C dX11_soonest_36 rfl 0 rfl rfl ?_
    refine a_callVV C (c_X11_findWays l G cy L E hE u28 o ho _ h) ho rfl (by decide) kw_6_232 kw_6_234 kp_62 kw_1_12 kw_6_235 rfl rfl pd_X11_findWays ⟨(Nat.le_of_ble_eq_true rfl), (Nat.le_of_ble_eq_true rfl)⟩ dX11_soonest_37 rfl (Nat.le_of_ble_eq_true rfl) ⟨(Nat.le_of_ble_eq_true rfl), (Nat.le_of_ble_eq_true rfl)⟩ rfl (fun u37 h => ?_)
    refine a_aload_n C dX11_soonest_40 rfl 0 rfl rfl ?_
    refine a_iload_n C dX11_soonest_41 rfl 2 rfl rfl ?_
    refine a_callVV C (c_X11_lays l G cy L E hE u37 o a2 ho _ h) ho rfl (by decide) kw_7_147 kw_7_149 kp_81 kw_1_12 kw_7_150 rfl rfl pd_X11_lays ⟨(Nat.le_of_ble_eq_true rfl), (Nat.le_of_ble_eq_true rfl)⟩ dX11_soonest_42 rfl (Nat.le_of_ble_eq_true rfl) ⟨(Nat.le_of_ble_eq_true rfl), (Nat.le_of_ble_eq_true rfl)⟩ rfl (fun u42 h => ?_)
    refine a_aload_n C dX11_soonest_45 rfl 0 rfl rfl ?_
    refine a_iload_n C dX11_soonest_46 rfl 1 rfl rfl ?_
    refine a_callVV C (c_X11_findSoonest l G cy L E hE u42 o a1 ho _ h) ho rfl (by decide) kw_7_151 kw_7_153 kp_82 kw_1_12 kw_7_154 rfl rfl pd_X11_findSoonest ⟨(Nat.le_of_ble_eq_true rfl), (Nat.le_of_ble_eq_true rfl)⟩ dX11_soonest_47 rfl (Nat.le_of_ble_eq_true rfl) ⟨(Nat.le_of_ble_eq_true rfl), (Nat.le_of_ble_eq_true rfl)⟩ rfl (fun u47 h => ?_)
    refine a_aload_n C dX11_soonest_50 rfl 0 rfl rfl ?_
    refine a_iload_n C dX11_soonest_51 rfl 1 rfl rfl ?_
    refine a_iconst (v := 1) C dX11_soonest_52 (by decide) rfl ?_
    refine a_aload_n C dX11_soonest_53 rfl 0 rfl rfl ?_
    refine g_11_27 C dX11_soonest_54 ho kw_6_9 rfl ?_
    refine a_ishl C dX11_soonest_57 rfl ?_
    refine a_iconst (v := 1) C dX11_soonest_58 (by decide) rfl ?_
    refine a_isub C dX11_soonest_59 rfl ?_
    refine a_callVI C (c_X11_soonestOf l G cy L E hE u47 o a1 ((1 <<< ((ms_I u47 o 27) &&& 31)) - 1) ho _ h) ho rfl (by decide) kw_7_163 kw_7_165 kp_85 kw_1_12 kw_7_166 rfl rfl pd_X11_soonestOf ⟨(Nat.le_of_ble_eq_true rfl), (Nat.le_of_ble_eq_true rfl)⟩ dX11_soonest_60 rfl (Nat.le_of_ble_eq_true rfl) ⟨(Nat.le_of_ble_eq_true rfl), (Nat.le_of_ble_eq_true rfl)⟩ rfl (fun r60 u60 h => ?_)
    refine a_callSI C (c_X11_told l G cy L E hE u60 r60  _ h) kw_7_20 kw_7_21 kw_1_12 kw_7_22 rfl rfl pd_X11_told ⟨(Nat.le_of_ble_eq_true rfl), (Nat.le_of_ble_eq_true rfl)⟩ dX11_soonest_63 rfl (Nat.le_of_ble_eq_true rfl) ⟨(Nat.le_of_ble_eq_true rfl), (Nat.le_of_ble_eq_true rfl)⟩ rfl (fun r63 u63 h => ?_)
    exact a_iret C dX11_soonest_66 hr hlocks (Nat.le_of_ble_eq_true rfl) (Nat.le_of_ble_eq_true rfl) h
  · replace h := h.2 hc
    refine a_sub (lv' := []) [] rfl ?_
    exact c_X11_soonest_34 C hr hlocks hE ho  u28  h
def wp_X11_soonest (E : ms_En) (u : ms_St) (o : Nat) (a1 : Int32) (a2 : Int32) (post : Int32 → ms_St → Prop) : Prop := wp_X11_noWalker E (ms_sI u o 0 0) o a1 (fun r7 u7 => (r7 = 0 → wp_X11_isSet E u7 o a2 (fun r16 u16 => (r16 = 0 → wp_X11_soonest_27 E o a1 a2 post u16 1 o) ∧ (¬ r16 = 0 → wp_X11_soonest_27 E o a1 a2 post u16 0 o))) ∧ (¬ r7 = 0 → wp_X11_soonest_34 E o a1 a2 post u7))
set_option maxHeartbeats 4000000 in
set_option maxRecDepth 100000 in
theorem c_X11_soonest (l : Launch) (G : va_G) (cy : Nat → ClassId) (L : Nat → Nat) (E : ms_En) (hE : ms_WT E) (u : ms_St) (o : Nat) (a1 : Int32) (a2 : Int32) (ho : ms_is E o 11) (post : Int32 → ms_St → Prop) (h : wp_X11_soonest E u o a1 a2 post) : ms_MetI l ⟨"CensusWalkModel", "soonest", "(II)I"⟩ (Cond.code ⟨"CensusWalkModel", "soonest", "(II)I"⟩ prog_13_method_79_code 3 (some .int) :: lw_g) ({ frames := 7, cells := 0, slots := 0, locals := 159 } : Room) G cy L E [.ref (L o), .int a1, .int a2] u post 0 0 := by
  refine ms_enterI (lv := [(0, .ref (L o)), (1, .int a1), (2, .int a2)]) (by decide) (Nat.le_of_ble_eq_true rfl) rfl ?_
  intro p e s m args below meth c A C hr hlocks
  unfold wp_X11_soonest at h
  refine a_aload_n C dX11_soonest_0 rfl 0 rfl rfl ?_
  refine a_iconst (v := 0) C dX11_soonest_1 (by decide) rfl ?_
  refine s_11_0 C dX11_soonest_2 ho kw_5_222 rfl ?_
  refine a_aload_n C dX11_soonest_5 rfl 0 rfl rfl ?_
  refine a_iload_n C dX11_soonest_6 rfl 1 rfl rfl ?_
  refine a_callVI C (c_X11_noWalker l G cy L E hE (ms_sI u o 0 0) o a1 ho _ h) ho rfl (by decide) kw_7_72 kw_7_74 kp_72 kw_1_12 kw_7_75 rfl rfl pd_X11_noWalker ⟨(Nat.le_of_ble_eq_true rfl), (Nat.le_of_ble_eq_true rfl)⟩ dX11_soonest_7 rfl (Nat.le_of_ble_eq_true rfl) ⟨(Nat.le_of_ble_eq_true rfl), (Nat.le_of_ble_eq_true rfl)⟩ rfl (fun r7 u7 h => ?_)
  refine a_if_ne (tgt := 34) C dX11_soonest_10 (by decide) rfl (fun hc => ?_) (fun hc => ?_)
  · replace h := h.2 hc
    refine a_sub (lv' := []) [] rfl ?_
    exact c_X11_soonest_34 C hr hlocks hE ho  u7  h
  · replace h := h.1 hc
    refine a_aload_n C dX11_soonest_13 rfl 0 rfl rfl ?_
    refine a_aload_n C dX11_soonest_14 rfl 0 rfl rfl ?_
    refine a_iload_n C dX11_soonest_15 rfl 2 rfl rfl ?_
    refine a_callVI C (c_X11_isSet l G cy L E hE u7 o a2 ho _ h) ho rfl (by decide) kw_7_140 kw_7_142 kp_80 kw_1_12 kw_7_143 rfl rfl pd_X11_isSet ⟨(Nat.le_of_ble_eq_true rfl), (Nat.le_of_ble_eq_true rfl)⟩ dX11_soonest_16 rfl (Nat.le_of_ble_eq_true rfl) ⟨(Nat.le_of_ble_eq_true rfl), (Nat.le_of_ble_eq_true rfl)⟩ rfl (fun r16 u16 h => ?_)
    refine a_if_ne (tgt := 26) C dX11_soonest_19 (by decide) rfl (fun hc => ?_) (fun hc => ?_)
    · replace h := h.2 hc
      refine a_iconst (v := 0) C dX11_soonest_26 (by decide) rfl ?_
      exact c_X11_soonest_27 C hr hlocks hE ho  u16 0 o ho h
    · replace h := h.1 hc
      refine a_iconst (v := 1) C dX11_soonest_22 (by decide) rfl ?_
      refine a_goto (tgt := 27) C dX11_soonest_23 (by decide) ?_
      exact c_X11_soonest_27 C hr hlocks hE ho  u16 1 o ho h

/-! CensusWalkModel.timeOf(I)I -/
theorem pd_X11_timeOf : (⟨"CensusWalkModel", "timeOf", "(I)I"⟩ : MethodName).cls = "CensusWalkModel" ∧ (⟨"CensusWalkModel", "timeOf", "(I)I"⟩ : MethodName).cls ≠ "java/lang/invoke/MethodHandle" ∧ (⟨"CensusWalkModel", "timeOf", "(I)I"⟩ : MethodName).cls ≠ "java/lang/invoke/VarHandle" ∧ (parseMethodDescriptor (⟨"CensusWalkModel", "timeOf", "(I)I"⟩ : MethodName).desc).map (fun d => d.parameters.length) = some 1 := by decide +kernel
def wp_X11_timeOf_129 (E : ms_En) (o : Nat) (a1 : Int32) (post : Int32 → ms_St → Prop) (k76 : ms_St → Int32 → Int32 → Int32 → Prop) (u : ms_St) (x2 : Int32) (x4 : Int32) (x5 : Int32) : Prop := k76 u x2 x4 (x5 + 1)
set_option maxHeartbeats 4000000 in
set_option maxRecDepth 100000 in
theorem c_X11_timeOf_129 {p : Program} {l : Launch} {e : Env} {s : State} {m : MethodId} {args : Array Value} {below : List Frame} {meth : Method} {c : Code} {G : va_G} {cy : Nat → ClassId} {A : Nat → Prop} {L : Nat → Nat} {E : ms_En} (C : ms_Cx p m c cX11_timeOf 6 s args (Cond.code ⟨"CensusWalkModel", "timeOf", "(I)I"⟩ prog_13_method_83_code 6 (some .int)) "CensusWalkModel" G cy A) (hr : meth.sig.returnType = (some .int)) (hlocks : meth.locks = false) (hE : ms_WT E) {o : Nat} {a1 : Int32} {post : Int32 → ms_St → Prop} {k76 : ms_St → Int32 → Int32 → Int32 → Prop} (ho : ms_is E o 11) (hk76 : ∀ (u : ms_St) (x2 : Int32) (x4 : Int32) (x5 : Int32), k76 u x2 x4 x5 → ms_At p l e ({ frames := 0, cells := 0, slots := 0, locals := 0 } : Room) s m args below meth c 6 G cy A L 0 0 (ms_QI below args s G cy L E A post 0 0) E u 76 [(0, .ref (L o)), (2, .int x2), (4, .int x4), (5, .int x5)] []) (u : ms_St) (x2 : Int32) (x4 : Int32) (x5 : Int32)  (h : wp_X11_timeOf_129 E o a1 post k76 u x2 x4 x5) : ms_At p l e ({ frames := 0, cells := 0, slots := 0, locals := 0 } : Room) s m args below meth c 6 G cy A L 0 0 (ms_QI below args s G cy L E A post 0 0) E u 129 [(0, .ref (L o)), (2, .int x2), (4, .int x4), (5, .int x5)] [] := by
  unfold wp_X11_timeOf_129 at h
  refine a_iinc (lv' := [(0, .ref (L o)), (2, .int x2), (4, .int x4), (5, .int (x5 + 1))]) (v := (x5 + 1)) C dX11_timeOf_129 3 rfl (congrArg (fun z => x5 + z) (by decide)) (by decide) [1, 2, 3, 0] rfl rfl ?_
  refine a_goto (tgt := 76) C dX11_timeOf_132 (by decide) ?_
  exact hk76 u x2 x4 (x5 + 1)  h
def wp_X11_timeOf_76 (E : ms_En) (o : Nat) (a1 : Int32) (post : Int32 → ms_St → Prop)  : Nat → ms_St → Int32 → Int32 → Int32 → Prop
  | 0 => fun _ _ _ _ => False
  | n + 1 => fun u x2 x4 x5 => (x2 ≤ x5 → post x4 u) ∧ (¬ x2 ≤ x5 → vp_in x5 3 ∧ (((ms_I u (ms_at E o 33) (Int32.toNatClampNeg x5)) ≤ 0 → wp_X11_timeOf_129 E o a1 post (wp_X11_timeOf_76 E o a1 post n) u x2 x4 x5) ∧ (¬ (ms_I u (ms_at E o 33) (Int32.toNatClampNeg x5)) ≤ 0 → vp_in x5 3 ∧ (vp_in x5 3 ∧ (vp_in (ms_I u (ms_at E o 33) (Int32.toNatClampNeg x5)) 256 ∧ (((ms_I u (ms_at E (ms_at E o 30) (Int32.toNatClampNeg x5)) (Int32.toNatClampNeg (ms_I u (ms_at E o 33) (Int32.toNatClampNeg x5)))) ≤ x4 → wp_X11_timeOf_129 E o a1 post (wp_X11_timeOf_76 E o a1 post n) u x2 x4 x5) ∧ (¬ (ms_I u (ms_at E (ms_at E o 30) (Int32.toNatClampNeg x5)) (Int32.toNatClampNeg (ms_I u (ms_at E o 33) (Int32.toNatClampNeg x5)))) ≤ x4 → vp_in x5 3 ∧ (vp_in x5 3 ∧ (vp_in (ms_I u (ms_at E o 33) (Int32.toNatClampNeg x5)) 256 ∧ (∀ v127 : Int32, v127 = (ms_I u (ms_at E (ms_at E o 30) (Int32.toNatClampNeg x5)) (Int32.toNatClampNeg (ms_I u (ms_at E o 33) (Int32.toNatClampNeg x5)))) → (wp_X11_timeOf_129 E o a1 post (wp_X11_timeOf_76 E o a1 post n) u x2 v127 x5)))))))))))
set_option maxHeartbeats 4000000 in
set_option maxRecDepth 100000 in
theorem c_X11_timeOf_76 {p : Program} {l : Launch} {e : Env} {s : State} {m : MethodId} {args : Array Value} {below : List Frame} {meth : Method} {c : Code} {G : va_G} {cy : Nat → ClassId} {A : Nat → Prop} {L : Nat → Nat} {E : ms_En} (C : ms_Cx p m c cX11_timeOf 6 s args (Cond.code ⟨"CensusWalkModel", "timeOf", "(I)I"⟩ prog_13_method_83_code 6 (some .int)) "CensusWalkModel" G cy A) (hr : meth.sig.returnType = (some .int)) (hlocks : meth.locks = false) (hE : ms_WT E) {o : Nat} {a1 : Int32} {post : Int32 → ms_St → Prop}  (ho : ms_is E o 11)  : ∀ (n : Nat) (u : ms_St) (x2 : Int32) (x4 : Int32) (x5 : Int32), wp_X11_timeOf_76 E o a1 post n u x2 x4 x5 → ms_At p l e ({ frames := 0, cells := 0, slots := 0, locals := 0 } : Room) s m args below meth c 6 G cy A L 0 0 (ms_QI below args s G cy L E A post 0 0) E u 76 [(0, .ref (L o)), (2, .int x2), (4, .int x4), (5, .int x5)] [] := by
  intro n
  induction n with
  | zero =>
    intro u x2 x4 x5  h
    exact absurd h id
  | succ n ih =>
    intro u x2 x4 x5  h
    unfold wp_X11_timeOf_76 at h
    refine a_iload C dX11_timeOf_76 3 rfl rfl ?_
    refine a_iload_n C dX11_timeOf_78 rfl 1 rfl rfl ?_
    refine a_icmp_ge (tgt := 135) C dX11_timeOf_79 (by decide) rfl (fun hc => ?_) (fun hc => ?_)
    · replace h := h.1 hc
      refine a_iload C dX11_timeOf_135 2 rfl rfl ?_
      exact a_iret C dX11_timeOf_137 hr hlocks (Nat.le_of_ble_eq_true rfl) (Nat.le_of_ble_eq_true rfl) h
    · replace h := h.2 hc
      refine a_aload_n C dX11_timeOf_82 rfl 0 rfl rfl ?_
      refine g_11_33 C hE dX11_timeOf_83 ho kw_6_15 rfl ?_
      have k83 : ms_is E (ms_at E o 33) 13 := ms_wt hE ho rfl (by decide)
      have n83 : ms_N E (ms_at E o 33) = 3 := ms_wl hE ho (by decide) (by decide) rfl
      refine a_iload C dX11_timeOf_86 3 rfl rfl ?_
      obtain ⟨q88, h⟩ := h
      refine a_iald C dX11_timeOf_88 k83 n83 q88 rfl ?_
      refine a_if_le (tgt := 129) C dX11_timeOf_89 (by decide) rfl (fun hc => ?_) (fun hc => ?_)
      · replace h := h.1 hc
        exact c_X11_timeOf_129 C hr hlocks hE ho ih u x2 x4 x5  h
      · replace h := h.2 hc
        refine a_aload_n C dX11_timeOf_92 rfl 0 rfl rfl ?_
        refine g_11_30 C hE dX11_timeOf_93 ho kw_6_12 rfl ?_
        have k93 : ms_is E (ms_at E o 30) 20 := ms_wt hE ho rfl (by decide)
        have n93 : ms_N E (ms_at E o 30) = 3 := ms_wl hE ho (by decide) (by decide) rfl
        refine a_iload C dX11_timeOf_96 3 rfl rfl ?_
        obtain ⟨q98, h⟩ := h
        refine a_aldI C dX11_timeOf_98 k93 (by decide) n93 q98 (hE.2.2 _ _ _ k93 (by decide) (by decide) (ms_in n93 q98)).1 rfl ?_
        have k98 : ms_is E (ms_at E (ms_at E o 30) (Int32.toNatClampNeg x5)) 13 := (hE.2.2 _ _ _ k93 (by decide) (by decide) (ms_in n93 q98)).2.1
        have n98 : ms_N E (ms_at E (ms_at E o 30) (Int32.toNatClampNeg x5)) = 256 := (hE.2.2 _ _ _ k93 (by decide) (by decide) (ms_in n93 q98)).2.2
        refine a_aload_n C dX11_timeOf_99 rfl 0 rfl rfl ?_
        refine g_11_33 C hE dX11_timeOf_100 ho kw_6_15 rfl ?_
        refine a_iload C dX11_timeOf_103 3 rfl rfl ?_
        obtain ⟨q105, h⟩ := h
        refine a_iald C dX11_timeOf_105 k83 n83 q105 rfl ?_
        obtain ⟨q106, h⟩ := h
        refine a_iald C dX11_timeOf_106 k98 n98 q106 rfl ?_
        refine a_iload C dX11_timeOf_107 2 rfl rfl ?_
        refine a_icmp_le (tgt := 129) C dX11_timeOf_109 (by decide) rfl (fun hc => ?_) (fun hc => ?_)
        · replace h := h.1 hc
          exact c_X11_timeOf_129 C hr hlocks hE ho ih u x2 x4 x5  h
        · replace h := h.2 hc
          refine a_aload_n C dX11_timeOf_112 rfl 0 rfl rfl ?_
          refine g_11_30 C hE dX11_timeOf_113 ho kw_6_12 rfl ?_
          refine a_iload C dX11_timeOf_116 3 rfl rfl ?_
          obtain ⟨q118, h⟩ := h
          refine a_aldI C dX11_timeOf_118 k93 (by decide) n93 q118 (hE.2.2 _ _ _ k93 (by decide) (by decide) (ms_in n93 q118)).1 rfl ?_
          have k118 : ms_is E (ms_at E (ms_at E o 30) (Int32.toNatClampNeg x5)) 13 := (hE.2.2 _ _ _ k93 (by decide) (by decide) (ms_in n93 q118)).2.1
          have n118 : ms_N E (ms_at E (ms_at E o 30) (Int32.toNatClampNeg x5)) = 256 := (hE.2.2 _ _ _ k93 (by decide) (by decide) (ms_in n93 q118)).2.2
          refine a_aload_n C dX11_timeOf_119 rfl 0 rfl rfl ?_
          refine g_11_33 C hE dX11_timeOf_120 ho kw_6_15 rfl ?_
          refine a_iload C dX11_timeOf_123 3 rfl rfl ?_
          obtain ⟨q125, h⟩ := h
          refine a_iald C dX11_timeOf_125 k83 n83 q125 rfl ?_
          obtain ⟨q126, h⟩ := h
          refine a_iald C dX11_timeOf_126 k118 n118 q126 rfl ?_
          refine a_nmI (fun v127 e127 => ?_)
          replace h := h v127 e127
          refine a_istore (lv' := [(0, .ref (L o)), (2, .int x2), (4, .int v127), (5, .int x5)]) C dX11_timeOf_127 (by decide) [1, 2, 0, 3] rfl rfl ?_
          exact c_X11_timeOf_129 C hr hlocks hE ho ih u x2 v127 x5  h
def wp_X11_timeOf_43 (E : ms_En) (o : Nat) (a1 : Int32) (post : Int32 → ms_St → Prop)  : Nat → ms_St → Int32 → Int32 → Int32 → Int32 → Prop
  | 0 => fun _ _ _ _ _ => False
  | n + 1 => fun u x2 x3 x4 x5 => (x5 < 0 → ∃ n76, wp_X11_timeOf_76 E o a1 post n76 u x2 x4 0) ∧ (¬ x5 < 0 → ¬ x2 = 0 ∧ (vp_in (x3 - x3 / x2 * x2) 3 ∧ (vp_in (x3 - x3 / x2 * x2) 3 ∧ (∀ w62 : ms_St, w62 = (ms_sI u (ms_at E o 33) (Int32.toNatClampNeg (x3 - x3 / x2 * x2)) ((ms_I u (ms_at E o 33) (Int32.toNatClampNeg (x3 - x3 / x2 * x2))) ||| (1 <<< (x5 &&& 31)))) → (¬ x2 = 0 ∧ (∀ v66 : Int32, v66 = (x3 / x2) → (wp_X11_timeOf_43 E o a1 post n w62 x2 v66 x4 (x5 + (-1)))))))))
set_option maxHeartbeats 4000000 in
set_option maxRecDepth 100000 in
theorem c_X11_timeOf_43 {p : Program} {l : Launch} {e : Env} {s : State} {m : MethodId} {args : Array Value} {below : List Frame} {meth : Method} {c : Code} {G : va_G} {cy : Nat → ClassId} {A : Nat → Prop} {L : Nat → Nat} {E : ms_En} (C : ms_Cx p m c cX11_timeOf 6 s args (Cond.code ⟨"CensusWalkModel", "timeOf", "(I)I"⟩ prog_13_method_83_code 6 (some .int)) "CensusWalkModel" G cy A) (hr : meth.sig.returnType = (some .int)) (hlocks : meth.locks = false) (hE : ms_WT E) {o : Nat} {a1 : Int32} {post : Int32 → ms_St → Prop}  (ho : ms_is E o 11)  : ∀ (n : Nat) (u : ms_St) (x2 : Int32) (x3 : Int32) (x4 : Int32) (x5 : Int32), wp_X11_timeOf_43 E o a1 post n u x2 x3 x4 x5 → ms_At p l e ({ frames := 0, cells := 0, slots := 0, locals := 0 } : Room) s m args below meth c 6 G cy A L 0 0 (ms_QI below args s G cy L E A post 0 0) E u 43 [(0, .ref (L o)), (2, .int x2), (3, .int x3), (4, .int x4), (5, .int x5)] [] := by
  intro n
  induction n with
  | zero =>
    intro u x2 x3 x4 x5  h
    exact absurd h id
  | succ n ih =>
    intro u x2 x3 x4 x5  h
    unfold wp_X11_timeOf_43 at h
    refine a_iload C dX11_timeOf_43 4 rfl rfl ?_
    refine a_if_lt (tgt := 73) C dX11_timeOf_45 (by decide) rfl (fun hc => ?_) (fun hc => ?_)
    · replace h := h.1 hc
      refine a_iconst (v := 0) C dX11_timeOf_73 (by decide) rfl ?_
      refine a_istore (lv' := [(0, .ref (L o)), (2, .int x2), (3, .int x3), (4, .int x4), (5, .int 0)]) C dX11_timeOf_74 (by decide) [1, 2, 3, 4, 0] rfl rfl ?_
      refine a_sub (lv' := [(0, .ref (L o)), (2, .int x2), (4, .int x4), (5, .int 0)]) [0, 1, 3, 4] rfl ?_
      obtain ⟨n9, h⟩ := h
      exact c_X11_timeOf_76 C hr hlocks hE ho  n9 u x2 x4 0  h
    · replace h := h.2 hc
      refine a_aload_n C dX11_timeOf_48 rfl 0 rfl rfl ?_
      refine g_11_33 C hE dX11_timeOf_49 ho kw_6_15 rfl ?_
      have k49 : ms_is E (ms_at E o 33) 13 := ms_wt hE ho rfl (by decide)
      have n49 : ms_N E (ms_at E o 33) = 3 := ms_wl hE ho (by decide) (by decide) rfl
      refine a_iload_n C dX11_timeOf_52 rfl 2 rfl rfl ?_
      refine a_iload_n C dX11_timeOf_53 rfl 1 rfl rfl ?_
      obtain ⟨q54, h⟩ := h
      refine a_irem C dX11_timeOf_54 q54 rfl ?_
      refine a_dup2 C dX11_timeOf_55 rfl rfl rfl ?_
      obtain ⟨q56, h⟩ := h
      refine a_iald C dX11_timeOf_56 k49 n49 q56 rfl ?_
      refine a_iconst (v := 1) C dX11_timeOf_57 (by decide) rfl ?_
      refine a_iload C dX11_timeOf_58 4 rfl rfl ?_
      refine a_ishl C dX11_timeOf_60 rfl ?_
      refine a_ior C dX11_timeOf_61 rfl ?_
      obtain ⟨q62, h⟩ := h
      refine a_iast C dX11_timeOf_62 k49 n49 q62 rfl ?_
      refine a_nmU (fun w62 e62 => ?_)
      replace h := h w62 e62
      refine a_iload_n C dX11_timeOf_63 rfl 2 rfl rfl ?_
      refine a_iload_n C dX11_timeOf_64 rfl 1 rfl rfl ?_
      obtain ⟨q65, h⟩ := h
      refine a_idiv C dX11_timeOf_65 q65 rfl ?_
      refine a_nmI (fun v66 e66 => ?_)
      replace h := h v66 e66
      refine a_istore_n (lv' := [(0, .ref (L o)), (2, .int x2), (3, .int v66), (4, .int x4), (5, .int x5)]) C dX11_timeOf_66 rfl (by decide) [1, 2, 0, 3, 4] rfl rfl ?_
      refine a_iinc (lv' := [(0, .ref (L o)), (2, .int x2), (3, .int v66), (4, .int x4), (5, .int (x5 + (-1)))]) (v := (x5 + (-1))) C dX11_timeOf_67 4 rfl (congrArg (fun z => x5 + z) (by decide)) (by decide) [1, 2, 3, 4, 0] rfl rfl ?_
      refine a_goto (tgt := 43) C dX11_timeOf_70 (by decide) ?_
      exact ih w62 x2 v66 x4 (x5 + (-1))  h
def wp_X11_timeOf_15 (E : ms_En) (o : Nat) (a1 : Int32) (post : Int32 → ms_St → Prop)  : Nat → ms_St → Int32 → Int32 → Int32 → Int32 → Prop
  | 0 => fun _ _ _ _ _ => False
  | n + 1 => fun u x2 x3 x4 x5 => (x2 ≤ x5 → ∀ v41 : Int32, v41 = ((ms_I u o 27) - 1) → (∃ n43, wp_X11_timeOf_43 E o a1 post n43 u x2 x3 x4 v41)) ∧ (¬ x2 ≤ x5 → vp_in x5 3 ∧ (wp_X11_timeOf_15 E o a1 post n (ms_sI u (ms_at E o 33) (Int32.toNatClampNeg x5) 0) x2 x3 x4 (x5 + 1)))
set_option maxHeartbeats 4000000 in
set_option maxRecDepth 100000 in
theorem c_X11_timeOf_15 {p : Program} {l : Launch} {e : Env} {s : State} {m : MethodId} {args : Array Value} {below : List Frame} {meth : Method} {c : Code} {G : va_G} {cy : Nat → ClassId} {A : Nat → Prop} {L : Nat → Nat} {E : ms_En} (C : ms_Cx p m c cX11_timeOf 6 s args (Cond.code ⟨"CensusWalkModel", "timeOf", "(I)I"⟩ prog_13_method_83_code 6 (some .int)) "CensusWalkModel" G cy A) (hr : meth.sig.returnType = (some .int)) (hlocks : meth.locks = false) (hE : ms_WT E) {o : Nat} {a1 : Int32} {post : Int32 → ms_St → Prop}  (ho : ms_is E o 11)  : ∀ (n : Nat) (u : ms_St) (x2 : Int32) (x3 : Int32) (x4 : Int32) (x5 : Int32), wp_X11_timeOf_15 E o a1 post n u x2 x3 x4 x5 → ms_At p l e ({ frames := 0, cells := 0, slots := 0, locals := 0 } : Room) s m args below meth c 6 G cy A L 0 0 (ms_QI below args s G cy L E A post 0 0) E u 15 [(0, .ref (L o)), (2, .int x2), (3, .int x3), (4, .int x4), (5, .int x5)] [] := by
  intro n
  induction n with
  | zero =>
    intro u x2 x3 x4 x5  h
    exact absurd h id
  | succ n ih =>
    intro u x2 x3 x4 x5  h
    unfold wp_X11_timeOf_15 at h
    refine a_iload C dX11_timeOf_15 4 rfl rfl ?_
    refine a_iload_n C dX11_timeOf_17 rfl 1 rfl rfl ?_
    refine a_icmp_ge (tgt := 35) C dX11_timeOf_18 (by decide) rfl (fun hc => ?_) (fun hc => ?_)
    · replace h := h.1 hc
      refine a_aload_n C dX11_timeOf_35 rfl 0 rfl rfl ?_
      refine g_11_27 C dX11_timeOf_36 ho kw_6_9 rfl ?_
      refine a_iconst (v := 1) C dX11_timeOf_39 (by decide) rfl ?_
      refine a_isub C dX11_timeOf_40 rfl ?_
      refine a_nmI (fun v41 e41 => ?_)
      replace h := h v41 e41
      refine a_istore (lv' := [(0, .ref (L o)), (2, .int x2), (3, .int x3), (4, .int x4), (5, .int v41)]) C dX11_timeOf_41 (by decide) [1, 2, 3, 4, 0] rfl rfl ?_
      obtain ⟨n9, h⟩ := h
      exact c_X11_timeOf_43 C hr hlocks hE ho  n9 u x2 x3 x4 v41  h
    · replace h := h.2 hc
      refine a_aload_n C dX11_timeOf_21 rfl 0 rfl rfl ?_
      refine g_11_33 C hE dX11_timeOf_22 ho kw_6_15 rfl ?_
      have k22 : ms_is E (ms_at E o 33) 13 := ms_wt hE ho rfl (by decide)
      have n22 : ms_N E (ms_at E o 33) = 3 := ms_wl hE ho (by decide) (by decide) rfl
      refine a_iload C dX11_timeOf_25 4 rfl rfl ?_
      refine a_iconst (v := 0) C dX11_timeOf_27 (by decide) rfl ?_
      obtain ⟨q28, h⟩ := h
      refine a_iast C dX11_timeOf_28 k22 n22 q28 rfl ?_
      refine a_iinc (lv' := [(0, .ref (L o)), (2, .int x2), (3, .int x3), (4, .int x4), (5, .int (x5 + 1))]) (v := (x5 + 1)) C dX11_timeOf_29 4 rfl (congrArg (fun z => x5 + z) (by decide)) (by decide) [1, 2, 3, 4, 0] rfl rfl ?_
      refine a_goto (tgt := 15) C dX11_timeOf_32 (by decide) ?_
      exact ih (ms_sI u (ms_at E o 33) (Int32.toNatClampNeg x5) 0) x2 x3 x4 (x5 + 1)  h
def wp_X11_timeOf (E : ms_En) (u : ms_St) (o : Nat) (a1 : Int32) (post : Int32 → ms_St → Prop) : Prop := vp_in 3 1613 ∧ (∀ v6 : Int32, v6 = (ms_I u (ms_at E o 8) (Int32.toNatClampNeg 3)) → (∃ n15, wp_X11_timeOf_15 E o a1 post n15 u v6 a1 0 0))
set_option maxHeartbeats 4000000 in
set_option maxRecDepth 100000 in
theorem c_X11_timeOf (l : Launch) (G : va_G) (cy : Nat → ClassId) (L : Nat → Nat) (E : ms_En) (hE : ms_WT E) (u : ms_St) (o : Nat) (a1 : Int32) (ho : ms_is E o 11) (post : Int32 → ms_St → Prop) (h : wp_X11_timeOf E u o a1 post) : ms_MetI l ⟨"CensusWalkModel", "timeOf", "(I)I"⟩ (Cond.code ⟨"CensusWalkModel", "timeOf", "(I)I"⟩ prog_13_method_83_code 6 (some .int) :: lw_g) ({ frames := 0, cells := 0, slots := 0, locals := 0 } : Room) G cy L E [.ref (L o), .int a1] u post 0 0 := by
  refine ms_enterI (lv := [(0, .ref (L o)), (1, .int a1)]) (by decide) (Nat.le_of_ble_eq_true rfl) rfl ?_
  intro p e s m args below meth c A C hr hlocks
  unfold wp_X11_timeOf at h
  refine a_aload_n C dX11_timeOf_0 rfl 0 rfl rfl ?_
  refine g_11_8 C hE dX11_timeOf_1 ho kw_5_230 rfl ?_
  have k1 : ms_is E (ms_at E o 8) 13 := ms_wt hE ho rfl (by decide)
  have n1 : ms_N E (ms_at E o 8) = 1613 := ms_wl hE ho (by decide) (by decide) rfl
  refine a_iconst (v := 3) C dX11_timeOf_4 (by decide) rfl ?_
  obtain ⟨q5, h⟩ := h
  refine a_iald C dX11_timeOf_5 k1 n1 q5 rfl ?_
  refine a_nmI (fun v6 e6 => ?_)
  replace h := h v6 e6
  refine a_istore_n (lv' := [(0, .ref (L o)), (1, .int a1), (2, .int v6)]) C dX11_timeOf_6 rfl (by decide) [1, 2, 0] rfl rfl ?_
  refine a_iload_n C dX11_timeOf_7 rfl 1 rfl rfl ?_
  refine a_istore_n (lv' := [(0, .ref (L o)), (1, .int a1), (2, .int v6), (3, .int a1)]) C dX11_timeOf_8 rfl (by decide) [1, 2, 3, 0] rfl rfl ?_
  refine a_iconst (v := 0) C dX11_timeOf_9 (by decide) rfl ?_
  refine a_istore (lv' := [(0, .ref (L o)), (1, .int a1), (2, .int v6), (3, .int a1), (4, .int 0)]) C dX11_timeOf_10 (by decide) [1, 2, 3, 4, 0] rfl rfl ?_
  refine a_iconst (v := 0) C dX11_timeOf_12 (by decide) rfl ?_
  refine a_istore (lv' := [(0, .ref (L o)), (1, .int a1), (2, .int v6), (3, .int a1), (4, .int 0), (5, .int 0)]) C dX11_timeOf_13 (by decide) [1, 2, 3, 4, 5, 0] rfl rfl ?_
  refine a_sub (lv' := [(0, .ref (L o)), (2, .int v6), (3, .int a1), (4, .int 0), (5, .int 0)]) [0, 2, 3, 4, 5] rfl ?_
  obtain ⟨n9, h⟩ := h
  exact c_X11_timeOf_15 C hr hlocks hE ho  n9 u v6 a1 0 0  h

/-! CensusWalkModel.divide(I)V -/
theorem pd_X11_divide : (⟨"CensusWalkModel", "divide", "(I)V"⟩ : MethodName).cls = "CensusWalkModel" ∧ (⟨"CensusWalkModel", "divide", "(I)V"⟩ : MethodName).cls ≠ "java/lang/invoke/MethodHandle" ∧ (⟨"CensusWalkModel", "divide", "(I)V"⟩ : MethodName).cls ≠ "java/lang/invoke/VarHandle" ∧ (parseMethodDescriptor (⟨"CensusWalkModel", "divide", "(I)V"⟩ : MethodName).desc).map (fun d => d.parameters.length) = some 1 := by decide +kernel
def wp_X11_divide_151 (E : ms_En) (o : Nat) (a1 : Int32) (post : ms_St → Prop) (k113 : ms_St → Int32 → Int32 → Prop) (u : ms_St) (x3 : Int32) (x4 : Int32) : Prop := k113 u x3 (x4 + 1)
set_option maxHeartbeats 4000000 in
set_option maxRecDepth 100000 in
theorem c_X11_divide_151 {p : Program} {l : Launch} {e : Env} {s : State} {m : MethodId} {args : Array Value} {below : List Frame} {meth : Method} {c : Code} {G : va_G} {cy : Nat → ClassId} {A : Nat → Prop} {L : Nat → Nat} {E : ms_En} (C : ms_Cx p m c cX11_divide 6 s args (Cond.code ⟨"CensusWalkModel", "divide", "(I)V"⟩ prog_13_method_82_code 6 none) "CensusWalkModel" G cy A) (hr : meth.sig.returnType = none) (hlocks : meth.locks = false) (hE : ms_WT E) {o : Nat} {a1 : Int32} {post : ms_St → Prop} {k113 : ms_St → Int32 → Int32 → Prop} (ho : ms_is E o 11) (hk113 : ∀ (u : ms_St) (x3 : Int32) (x4 : Int32), k113 u x3 x4 → ms_At p l e ({ frames := 7, cells := 0, slots := 0, locals := 159 } : Room) s m args below meth c 6 G cy A L 0 0 (ms_QV below args s G cy L E A post 0 0) E u 113 [(0, .ref (L o)), (3, .int x3), (4, .int x4)] []) (u : ms_St) (x3 : Int32) (x4 : Int32)  (h : wp_X11_divide_151 E o a1 post k113 u x3 x4) : ms_At p l e ({ frames := 7, cells := 0, slots := 0, locals := 159 } : Room) s m args below meth c 6 G cy A L 0 0 (ms_QV below args s G cy L E A post 0 0) E u 151 [(0, .ref (L o)), (3, .int x3), (4, .int x4)] [] := by
  unfold wp_X11_divide_151 at h
  refine a_iinc (lv' := [(0, .ref (L o)), (3, .int x3), (4, .int (x4 + 1))]) (v := (x4 + 1)) C dX11_divide_151 2 rfl (congrArg (fun z => x4 + z) (by decide)) (by decide) [1, 2, 0] rfl rfl ?_
  refine a_goto (tgt := 113) C dX11_divide_154 (by decide) ?_
  exact hk113 u x3 (x4 + 1)  h
def wp_X11_divide_113 (E : ms_En) (o : Nat) (a1 : Int32) (post : ms_St → Prop)  : Nat → ms_St → Int32 → Int32 → Prop
  | 0 => fun _ _ _ => False
  | n + 1 => fun u x3 x4 => (x3 ≤ x4 → post u) ∧ (¬ x3 ≤ x4 → wp_X11_timeOf E u o x4 (fun r122 u122 => (r122 < (ms_I u122 o 31) → wp_X11_divide_151 E o a1 post (wp_X11_divide_113 E o a1 post n) (ms_sI (ms_sI u122 o 31 r122) o 32 x4) x3 x4) ∧ (¬ r122 < (ms_I u122 o 31) → wp_X11_divide_151 E o a1 post (wp_X11_divide_113 E o a1 post n) u122 x3 x4)))
set_option maxHeartbeats 4000000 in
set_option maxRecDepth 100000 in
theorem c_X11_divide_113 {p : Program} {l : Launch} {e : Env} {s : State} {m : MethodId} {args : Array Value} {below : List Frame} {meth : Method} {c : Code} {G : va_G} {cy : Nat → ClassId} {A : Nat → Prop} {L : Nat → Nat} {E : ms_En} (C : ms_Cx p m c cX11_divide 6 s args (Cond.code ⟨"CensusWalkModel", "divide", "(I)V"⟩ prog_13_method_82_code 6 none) "CensusWalkModel" G cy A) (hr : meth.sig.returnType = none) (hlocks : meth.locks = false) (hE : ms_WT E) {o : Nat} {a1 : Int32} {post : ms_St → Prop}  (ho : ms_is E o 11)  : ∀ (n : Nat) (u : ms_St) (x3 : Int32) (x4 : Int32), wp_X11_divide_113 E o a1 post n u x3 x4 → ms_At p l e ({ frames := 7, cells := 0, slots := 0, locals := 159 } : Room) s m args below meth c 6 G cy A L 0 0 (ms_QV below args s G cy L E A post 0 0) E u 113 [(0, .ref (L o)), (3, .int x3), (4, .int x4)] [] := by
  intro n
  induction n with
  | zero =>
    intro u x3 x4  h
    exact absurd h id
  | succ n ih =>
    intro u x3 x4  h
    unfold wp_X11_divide_113 at h
    refine a_iload C dX11_divide_113 2 rfl rfl ?_
    refine a_iload_n C dX11_divide_115 rfl 1 rfl rfl ?_
    refine a_icmp_ge (tgt := 157) C dX11_divide_116 (by decide) rfl (fun hc => ?_) (fun hc => ?_)
    · replace h := h.1 hc
      exact a_vret C dX11_divide_157 hr hlocks (Nat.le_of_ble_eq_true rfl) (Nat.le_of_ble_eq_true rfl) h
    · replace h := h.2 hc
      refine a_aload_n C dX11_divide_119 rfl 0 rfl rfl ?_
      refine a_iload C dX11_divide_120 2 rfl rfl ?_
      refine a_callVI C (c_X11_timeOf l G cy L E hE u o x4 ho _ h) ho rfl (by decide) kw_7_183 kw_7_185 kp_88 kw_1_12 kw_7_186 rfl rfl pd_X11_timeOf ⟨(Nat.le_of_ble_eq_true rfl), (Nat.le_of_ble_eq_true rfl)⟩ dX11_divide_122 rfl (Nat.le_of_ble_eq_true rfl) ⟨(Nat.le_of_ble_eq_true rfl), (Nat.le_of_ble_eq_true rfl)⟩ rfl (fun r122 u122 h => ?_)
      refine a_istore (lv' := [(0, .ref (L o)), (3, .int x3), (4, .int x4), (5, .int r122)]) C dX11_divide_125 (by decide) [1, 2, 3, 0] rfl rfl ?_
      refine a_iload C dX11_divide_127 3 rfl rfl ?_
      refine a_aload_n C dX11_divide_129 rfl 0 rfl rfl ?_
      refine g_11_31 C dX11_divide_130 ho kw_6_13 rfl ?_
      refine a_icmp_lt (tgt := 139) C dX11_divide_133 (by decide) rfl (fun hc => ?_) (fun hc => ?_)
      · replace h := h.1 hc
        refine a_aload_n C dX11_divide_139 rfl 0 rfl rfl ?_
        refine a_iload C dX11_divide_140 3 rfl rfl ?_
        refine s_11_31 C dX11_divide_142 ho kw_6_13 rfl ?_
        refine a_aload_n C dX11_divide_145 rfl 0 rfl rfl ?_
        refine a_iload C dX11_divide_146 2 rfl rfl ?_
        refine s_11_32 C dX11_divide_148 ho kw_6_14 rfl ?_
        refine a_sub (lv' := [(0, .ref (L o)), (3, .int x3), (4, .int x4)]) [0, 1, 2] rfl ?_
        exact c_X11_divide_151 C hr hlocks hE ho ih (ms_sI (ms_sI u122 o 31 r122) o 32 x4) x3 x4  h
      · replace h := h.2 hc
        refine a_goto (tgt := 151) C dX11_divide_136 (by decide) ?_
        refine a_sub (lv' := [(0, .ref (L o)), (3, .int x3), (4, .int x4)]) [0, 1, 2] rfl ?_
        exact c_X11_divide_151 C hr hlocks hE ho ih u122 x3 x4  h
def wp_X11_divide_80 (E : ms_En) (o : Nat) (a1 : Int32) (post : ms_St → Prop)  : Nat → ms_St → Int32 → Int32 → Int32 → Prop
  | 0 => fun _ _ _ _ => False
  | n + 1 => fun u x2 x3 x4 => ((ms_I u o 27) ≤ x4 → ∃ n113, wp_X11_divide_113 E o a1 post n113 (ms_sI (ms_sI u o 31 1000000) o 32 (-1)) x3 0) ∧ (¬ (ms_I u o 27) ≤ x4 → ∀ v92 : Int32, v92 = (x3 * x2) → (wp_X11_divide_80 E o a1 post n u x2 v92 (x4 + 1)))
set_option maxHeartbeats 4000000 in
set_option maxRecDepth 100000 in
theorem c_X11_divide_80 {p : Program} {l : Launch} {e : Env} {s : State} {m : MethodId} {args : Array Value} {below : List Frame} {meth : Method} {c : Code} {G : va_G} {cy : Nat → ClassId} {A : Nat → Prop} {L : Nat → Nat} {E : ms_En} (C : ms_Cx p m c cX11_divide 6 s args (Cond.code ⟨"CensusWalkModel", "divide", "(I)V"⟩ prog_13_method_82_code 6 none) "CensusWalkModel" G cy A) (hr : meth.sig.returnType = none) (hlocks : meth.locks = false) (hE : ms_WT E) {o : Nat} {a1 : Int32} {post : ms_St → Prop}  (ho : ms_is E o 11)  : ∀ (n : Nat) (u : ms_St) (x2 : Int32) (x3 : Int32) (x4 : Int32), wp_X11_divide_80 E o a1 post n u x2 x3 x4 → ms_At p l e ({ frames := 7, cells := 0, slots := 0, locals := 159 } : Room) s m args below meth c 6 G cy A L 0 0 (ms_QV below args s G cy L E A post 0 0) E u 80 [(0, .ref (L o)), (2, .int x2), (3, .int x3), (4, .int x4)] [] := by
  intro n
  induction n with
  | zero =>
    intro u x2 x3 x4  h
    exact absurd h id
  | succ n ih =>
    intro u x2 x3 x4  h
    unfold wp_X11_divide_80 at h
    refine a_iload C dX11_divide_80 3 rfl rfl ?_
    refine a_aload_n C dX11_divide_82 rfl 0 rfl rfl ?_
    refine g_11_27 C dX11_divide_83 ho kw_6_9 rfl ?_
    refine a_icmp_ge (tgt := 99) C dX11_divide_86 (by decide) rfl (fun hc => ?_) (fun hc => ?_)
    · replace h := h.1 hc
      refine a_aload_n C dX11_divide_99 rfl 0 rfl rfl ?_
      refine a_ldc (v := 1000000) C dX11_divide_100 kw_6_135 rfl ?_
      refine s_11_31 C dX11_divide_102 ho kw_6_13 rfl ?_
      refine a_aload_n C dX11_divide_105 rfl 0 rfl rfl ?_
      refine a_iconst (v := (-1)) C dX11_divide_106 (by decide) rfl ?_
      refine s_11_32 C dX11_divide_107 ho kw_6_14 rfl ?_
      refine a_iconst (v := 0) C dX11_divide_110 (by decide) rfl ?_
      refine a_istore (lv' := [(0, .ref (L o)), (2, .int x2), (3, .int x3), (4, .int 0)]) C dX11_divide_111 (by decide) [1, 2, 3, 0] rfl rfl ?_
      refine a_sub (lv' := [(0, .ref (L o)), (3, .int x3), (4, .int 0)]) [0, 2, 3] rfl ?_
      obtain ⟨n9, h⟩ := h
      exact c_X11_divide_113 C hr hlocks hE ho  n9 (ms_sI (ms_sI u o 31 1000000) o 32 (-1)) x3 0  h
    · replace h := h.2 hc
      refine a_iload_n C dX11_divide_89 rfl 2 rfl rfl ?_
      refine a_iload_n C dX11_divide_90 rfl 1 rfl rfl ?_
      refine a_imul C dX11_divide_91 rfl ?_
      refine a_nmI (fun v92 e92 => ?_)
      replace h := h v92 e92
      refine a_istore_n (lv' := [(0, .ref (L o)), (2, .int x2), (3, .int v92), (4, .int x4)]) C dX11_divide_92 rfl (by decide) [1, 2, 0, 3] rfl rfl ?_
      refine a_iinc (lv' := [(0, .ref (L o)), (2, .int x2), (3, .int v92), (4, .int (x4 + 1))]) (v := (x4 + 1)) C dX11_divide_93 3 rfl (congrArg (fun z => x4 + z) (by decide)) (by decide) [1, 2, 3, 0] rfl rfl ?_
      refine a_goto (tgt := 80) C dX11_divide_96 (by decide) ?_
      exact ih u x2 v92 (x4 + 1)  h
def wp_X11_divide_36 (E : ms_En) (o : Nat) (a1 : Int32) (post : ms_St → Prop) (k21 : ms_St → Int32 → Int32 → Int32 → Prop) : Nat → ms_St → Int32 → Int32 → Int32 → Int32 → Prop
  | 0 => fun _ _ _ _ _ => False
  | n + 1 => fun u x2 x3 x4 x5 => ((1 <<< ((ms_I u o 27) &&& 31)) ≤ x5 → k21 u x2 x3 (x4 + 1)) ∧ (¬ (1 <<< ((ms_I u o 27) &&& 31)) ≤ x5 → vp_in x4 3 ∧ (wp_X11_soonestOf E u o x4 x5 (fun r61 u61 => vp_in x5 256 ∧ (wp_X11_divide_36 E o a1 post k21 n (ms_sI u61 (ms_at E (ms_at E o 30) (Int32.toNatClampNeg x4)) (Int32.toNatClampNeg x5) r61) x2 x3 x4 (x5 + 1)))))
set_option maxHeartbeats 4000000 in
set_option maxRecDepth 100000 in
theorem c_X11_divide_36 {p : Program} {l : Launch} {e : Env} {s : State} {m : MethodId} {args : Array Value} {below : List Frame} {meth : Method} {c : Code} {G : va_G} {cy : Nat → ClassId} {A : Nat → Prop} {L : Nat → Nat} {E : ms_En} (C : ms_Cx p m c cX11_divide 6 s args (Cond.code ⟨"CensusWalkModel", "divide", "(I)V"⟩ prog_13_method_82_code 6 none) "CensusWalkModel" G cy A) (hr : meth.sig.returnType = none) (hlocks : meth.locks = false) (hE : ms_WT E) {o : Nat} {a1 : Int32} {post : ms_St → Prop} {k21 : ms_St → Int32 → Int32 → Int32 → Prop} (ho : ms_is E o 11) (hk21 : ∀ (u : ms_St) (x2 : Int32) (x3 : Int32) (x4 : Int32), k21 u x2 x3 x4 → ms_At p l e ({ frames := 7, cells := 0, slots := 0, locals := 159 } : Room) s m args below meth c 6 G cy A L 0 0 (ms_QV below args s G cy L E A post 0 0) E u 21 [(0, .ref (L o)), (2, .int x2), (3, .int x3), (4, .int x4)] []) : ∀ (n : Nat) (u : ms_St) (x2 : Int32) (x3 : Int32) (x4 : Int32) (x5 : Int32), wp_X11_divide_36 E o a1 post k21 n u x2 x3 x4 x5 → ms_At p l e ({ frames := 7, cells := 0, slots := 0, locals := 159 } : Room) s m args below meth c 6 G cy A L 0 0 (ms_QV below args s G cy L E A post 0 0) E u 36 [(0, .ref (L o)), (2, .int x2), (3, .int x3), (4, .int x4), (5, .int x5)] [] := by
  intro n
  induction n with
  | zero =>
    intro u x2 x3 x4 x5  h
    exact absurd h id
  | succ n ih =>
    intro u x2 x3 x4 x5  h
    unfold wp_X11_divide_36 at h
    refine a_iload C dX11_divide_36 4 rfl rfl ?_
    refine a_iconst (v := 1) C dX11_divide_38 (by decide) rfl ?_
    refine a_aload_n C dX11_divide_39 rfl 0 rfl rfl ?_
    refine g_11_27 C dX11_divide_40 ho kw_6_9 rfl ?_
    refine a_ishl C dX11_divide_43 rfl ?_
    refine a_icmp_ge (tgt := 71) C dX11_divide_44 (by decide) rfl (fun hc => ?_) (fun hc => ?_)
    · replace h := h.1 hc
      refine a_iinc (lv' := [(0, .ref (L o)), (2, .int x2), (3, .int x3), (4, .int (x4 + 1)), (5, .int x5)]) (v := (x4 + 1)) C dX11_divide_71 3 rfl (congrArg (fun z => x4 + z) (by decide)) (by decide) [1, 2, 3, 0, 4] rfl rfl ?_
      refine a_goto (tgt := 21) C dX11_divide_74 (by decide) ?_
      refine a_sub (lv' := [(0, .ref (L o)), (2, .int x2), (3, .int x3), (4, .int (x4 + 1))]) [0, 1, 2, 3] rfl ?_
      exact hk21 u x2 x3 (x4 + 1)  h
    · replace h := h.2 hc
      refine a_aload_n C dX11_divide_47 rfl 0 rfl rfl ?_
      refine g_11_30 C hE dX11_divide_48 ho kw_6_12 rfl ?_
      have k48 : ms_is E (ms_at E o 30) 20 := ms_wt hE ho rfl (by decide)
      have n48 : ms_N E (ms_at E o 30) = 3 := ms_wl hE ho (by decide) (by decide) rfl
      refine a_iload C dX11_divide_51 3 rfl rfl ?_
      obtain ⟨q53, h⟩ := h
      refine a_aldI C dX11_divide_53 k48 (by decide) n48 q53 (hE.2.2 _ _ _ k48 (by decide) (by decide) (ms_in n48 q53)).1 rfl ?_
      have k53 : ms_is E (ms_at E (ms_at E o 30) (Int32.toNatClampNeg x4)) 13 := (hE.2.2 _ _ _ k48 (by decide) (by decide) (ms_in n48 q53)).2.1
      have n53 : ms_N E (ms_at E (ms_at E o 30) (Int32.toNatClampNeg x4)) = 256 := (hE.2.2 _ _ _ k48 (by decide) (by decide) (ms_in n48 q53)).2.2
      refine a_iload C dX11_divide_54 4 rfl rfl ?_
      refine a_aload_n C dX11_divide_56 rfl 0 rfl rfl ?_
      refine a_iload C dX11_divide_57 3 rfl rfl ?_
      refine a_iload C dX11_divide_59 4 rfl rfl ?_
      refine a_callVI C (c_X11_soonestOf l G cy L E hE u o x4 x5 ho _ h) ho rfl (by decide) kw_7_163 kw_7_165 kp_85 kw_1_12 kw_7_166 rfl rfl pd_X11_soonestOf ⟨(Nat.le_of_ble_eq_true rfl), (Nat.le_of_ble_eq_true rfl)⟩ dX11_divide_61 rfl (Nat.le_of_ble_eq_true rfl) ⟨(Nat.le_of_ble_eq_true rfl), (Nat.le_of_ble_eq_true rfl)⟩ rfl (fun r61 u61 h => ?_)
      obtain ⟨q64, h⟩ := h
      refine a_iast C dX11_divide_64 k53 n53 q64 rfl ?_
      refine a_iinc (lv' := [(0, .ref (L o)), (2, .int x2), (3, .int x3), (4, .int x4), (5, .int (x5 + 1))]) (v := (x5 + 1)) C dX11_divide_65 4 rfl (congrArg (fun z => x5 + z) (by decide)) (by decide) [1, 2, 3, 4, 0] rfl rfl ?_
      refine a_goto (tgt := 36) C dX11_divide_68 (by decide) ?_
      exact ih (ms_sI u61 (ms_at E (ms_at E o 30) (Int32.toNatClampNeg x4)) (Int32.toNatClampNeg x5) r61) x2 x3 x4 (x5 + 1)  h
def wp_X11_divide_21 (E : ms_En) (o : Nat) (a1 : Int32) (post : ms_St → Prop)  : Nat → ms_St → Int32 → Int32 → Int32 → Prop
  | 0 => fun _ _ _ _ => False
  | n + 1 => fun u x2 x3 x4 => (x2 ≤ x4 → ∃ n80, wp_X11_divide_80 E o a1 post n80 u x2 x3 0) ∧ (¬ x2 ≤ x4 → wp_X11_findSoonest E u o x4 (fun u30 => ∃ n36, wp_X11_divide_36 E o a1 post (wp_X11_divide_21 E o a1 post n) n36 u30 x2 x3 x4 0))
set_option maxHeartbeats 4000000 in
set_option maxRecDepth 100000 in
theorem c_X11_divide_21 {p : Program} {l : Launch} {e : Env} {s : State} {m : MethodId} {args : Array Value} {below : List Frame} {meth : Method} {c : Code} {G : va_G} {cy : Nat → ClassId} {A : Nat → Prop} {L : Nat → Nat} {E : ms_En} (C : ms_Cx p m c cX11_divide 6 s args (Cond.code ⟨"CensusWalkModel", "divide", "(I)V"⟩ prog_13_method_82_code 6 none) "CensusWalkModel" G cy A) (hr : meth.sig.returnType = none) (hlocks : meth.locks = false) (hE : ms_WT E) {o : Nat} {a1 : Int32} {post : ms_St → Prop}  (ho : ms_is E o 11)  : ∀ (n : Nat) (u : ms_St) (x2 : Int32) (x3 : Int32) (x4 : Int32), wp_X11_divide_21 E o a1 post n u x2 x3 x4 → ms_At p l e ({ frames := 7, cells := 0, slots := 0, locals := 159 } : Room) s m args below meth c 6 G cy A L 0 0 (ms_QV below args s G cy L E A post 0 0) E u 21 [(0, .ref (L o)), (2, .int x2), (3, .int x3), (4, .int x4)] [] := by
  intro n
  induction n with
  | zero =>
    intro u x2 x3 x4  h
    exact absurd h id
  | succ n ih =>
    intro u x2 x3 x4  h
    unfold wp_X11_divide_21 at h
    refine a_iload C dX11_divide_21 3 rfl rfl ?_
    refine a_iload_n C dX11_divide_23 rfl 1 rfl rfl ?_
    refine a_icmp_ge (tgt := 77) C dX11_divide_24 (by decide) rfl (fun hc => ?_) (fun hc => ?_)
    · replace h := h.1 hc
      refine a_iconst (v := 0) C dX11_divide_77 (by decide) rfl ?_
      refine a_istore (lv' := [(0, .ref (L o)), (2, .int x2), (3, .int x3), (4, .int 0)]) C dX11_divide_78 (by decide) [1, 2, 3, 0] rfl rfl ?_
      obtain ⟨n9, h⟩ := h
      exact c_X11_divide_80 C hr hlocks hE ho  n9 u x2 x3 0  h
    · replace h := h.2 hc
      refine a_aload_n C dX11_divide_27 rfl 0 rfl rfl ?_
      refine a_iload C dX11_divide_28 3 rfl rfl ?_
      refine a_callVV C (c_X11_findSoonest l G cy L E hE u o x4 ho _ h) ho rfl (by decide) kw_7_151 kw_7_153 kp_82 kw_1_12 kw_7_154 rfl rfl pd_X11_findSoonest ⟨(Nat.le_of_ble_eq_true rfl), (Nat.le_of_ble_eq_true rfl)⟩ dX11_divide_30 rfl (Nat.le_of_ble_eq_true rfl) ⟨(Nat.le_of_ble_eq_true rfl), (Nat.le_of_ble_eq_true rfl)⟩ rfl (fun u30 h => ?_)
      refine a_iconst (v := 0) C dX11_divide_33 (by decide) rfl ?_
      refine a_istore (lv' := [(0, .ref (L o)), (2, .int x2), (3, .int x3), (4, .int x4), (5, .int 0)]) C dX11_divide_34 (by decide) [1, 2, 3, 4, 0] rfl rfl ?_
      obtain ⟨n9, h⟩ := h
      exact c_X11_divide_36 C hr hlocks hE ho ih n9 u30 x2 x3 x4 0  h
def wp_X11_divide (E : ms_En) (u : ms_St) (o : Nat) (a1 : Int32) (post : ms_St → Prop) : Prop := wp_X11_findWays E u o (fun u1 => wp_X11_lays E u1 o a1 (fun u6 => vp_in 3 1613 ∧ (∀ v15 : Int32, v15 = (ms_I u6 (ms_at E o 8) (Int32.toNatClampNeg 3)) → (∃ n21, wp_X11_divide_21 E o a1 post n21 u6 v15 1 0))))
set_option maxHeartbeats 4000000 in
set_option maxRecDepth 100000 in
theorem c_X11_divide (l : Launch) (G : va_G) (cy : Nat → ClassId) (L : Nat → Nat) (E : ms_En) (hE : ms_WT E) (u : ms_St) (o : Nat) (a1 : Int32) (ho : ms_is E o 11) (post : ms_St → Prop) (h : wp_X11_divide E u o a1 post) : ms_MetV l ⟨"CensusWalkModel", "divide", "(I)V"⟩ (Cond.code ⟨"CensusWalkModel", "divide", "(I)V"⟩ prog_13_method_82_code 6 none :: lw_g) ({ frames := 7, cells := 0, slots := 0, locals := 159 } : Room) G cy L E [.ref (L o), .int a1] u post 0 0 := by
  refine ms_enterV (lv := [(0, .ref (L o)), (1, .int a1)]) (by decide) (Nat.le_of_ble_eq_true rfl) rfl ?_
  intro p e s m args below meth c A C hr hlocks
  unfold wp_X11_divide at h
  refine a_aload_n C dX11_divide_0 rfl 0 rfl rfl ?_
  refine a_callVV C (c_X11_findWays l G cy L E hE u o ho _ h) ho rfl (by decide) kw_6_232 kw_6_234 kp_62 kw_1_12 kw_6_235 rfl rfl pd_X11_findWays ⟨(Nat.le_of_ble_eq_true rfl), (Nat.le_of_ble_eq_true rfl)⟩ dX11_divide_1 rfl (Nat.le_of_ble_eq_true rfl) ⟨(Nat.le_of_ble_eq_true rfl), (Nat.le_of_ble_eq_true rfl)⟩ rfl (fun u1 h => ?_)
  refine a_aload_n C dX11_divide_4 rfl 0 rfl rfl ?_
  refine a_iload_n C dX11_divide_5 rfl 1 rfl rfl ?_
  refine a_callVV C (c_X11_lays l G cy L E hE u1 o a1 ho _ h) ho rfl (by decide) kw_7_147 kw_7_149 kp_81 kw_1_12 kw_7_150 rfl rfl pd_X11_lays ⟨(Nat.le_of_ble_eq_true rfl), (Nat.le_of_ble_eq_true rfl)⟩ dX11_divide_6 rfl (Nat.le_of_ble_eq_true rfl) ⟨(Nat.le_of_ble_eq_true rfl), (Nat.le_of_ble_eq_true rfl)⟩ rfl (fun u6 h => ?_)
  refine a_aload_n C dX11_divide_9 rfl 0 rfl rfl ?_
  refine g_11_8 C hE dX11_divide_10 ho kw_5_230 rfl ?_
  have k10 : ms_is E (ms_at E o 8) 13 := ms_wt hE ho rfl (by decide)
  have n10 : ms_N E (ms_at E o 8) = 1613 := ms_wl hE ho (by decide) (by decide) rfl
  refine a_iconst (v := 3) C dX11_divide_13 (by decide) rfl ?_
  obtain ⟨q14, h⟩ := h
  refine a_iald C dX11_divide_14 k10 n10 q14 rfl ?_
  refine a_nmI (fun v15 e15 => ?_)
  replace h := h v15 e15
  refine a_istore_n (lv' := [(0, .ref (L o)), (1, .int a1), (2, .int v15)]) C dX11_divide_15 rfl (by decide) [1, 2, 0] rfl rfl ?_
  refine a_iconst (v := 1) C dX11_divide_16 (by decide) rfl ?_
  refine a_istore_n (lv' := [(0, .ref (L o)), (1, .int a1), (2, .int v15), (3, .int 1)]) C dX11_divide_17 rfl (by decide) [1, 2, 3, 0] rfl rfl ?_
  refine a_iconst (v := 0) C dX11_divide_18 (by decide) rfl ?_
  refine a_istore (lv' := [(0, .ref (L o)), (1, .int a1), (2, .int v15), (3, .int 1), (4, .int 0)]) C dX11_divide_19 (by decide) [1, 2, 3, 4, 0] rfl rfl ?_
  refine a_sub (lv' := [(0, .ref (L o)), (2, .int v15), (3, .int 1), (4, .int 0)]) [0, 2, 3, 4] rfl ?_
  obtain ⟨n9, h⟩ := h
  exact c_X11_divide_21 C hr hlocks hE ho  n9 u6 v15 1 0  h

/-! CensusWalkModel.division(I)I -/
theorem pd_X11_division : (⟨"CensusWalkModel", "division", "(I)I"⟩ : MethodName).cls = "CensusWalkModel" ∧ (⟨"CensusWalkModel", "division", "(I)I"⟩ : MethodName).cls ≠ "java/lang/invoke/MethodHandle" ∧ (⟨"CensusWalkModel", "division", "(I)I"⟩ : MethodName).cls ≠ "java/lang/invoke/VarHandle" ∧ (parseMethodDescriptor (⟨"CensusWalkModel", "division", "(I)I"⟩ : MethodName).desc).map (fun d => d.parameters.length) = some 1 := by decide +kernel
def wp_X11_division_19 (E : ms_En) (o : Nat) (a1 : Int32) (post : Int32 → ms_St → Prop)  (u : ms_St) (z0 : Int32) (z1 : Nat) : Prop := wp_X11_fails E u z1 z0 1 (fun r20 u20 => (r20 = 0 → (a1 = 0 → post 0 u20) ∧ (¬ a1 = 0 → wp_X11_divide E u20 o a1 (fun u36 => wp_X11_told E u36 (ms_I u36 o 31) (fun r43 u43 => post r43 u43)))) ∧ (¬ r20 = 0 → post 0 u20))
set_option maxHeartbeats 4000000 in
set_option maxRecDepth 100000 in
theorem c_X11_division_19 {p : Program} {l : Launch} {e : Env} {s : State} {m : MethodId} {args : Array Value} {below : List Frame} {meth : Method} {c : Code} {G : va_G} {cy : Nat → ClassId} {A : Nat → Prop} {L : Nat → Nat} {E : ms_En} (C : ms_Cx p m c cX11_division 2 s args (Cond.code ⟨"CensusWalkModel", "division", "(I)I"⟩ prog_13_method_84_code 2 (some .int)) "CensusWalkModel" G cy A) (hr : meth.sig.returnType = (some .int)) (hlocks : meth.locks = false) (hE : ms_WT E) {o : Nat} {a1 : Int32} {post : Int32 → ms_St → Prop}  (ho : ms_is E o 11)  (u : ms_St) (z0 : Int32) (z1 : Nat) (k_z1 : ms_is E z1 11) (h : wp_X11_division_19 E o a1 post u z0 z1) : ms_At p l e ({ frames := 8, cells := 0, slots := 0, locals := 184 } : Room) s m args below meth c 2 G cy A L 0 0 (ms_QI below args s G cy L E A post 0 0) E u 19 [(0, .ref (L o)), (1, .int a1)] [.int z0, .ref (L z1)] := by
  unfold wp_X11_division_19 at h
  refine a_iconst (v := 1) C dX11_division_19 (by decide) rfl ?_
  refine a_callVI C (c_X11_fails l G cy L E hE u z1 z0 1 k_z1 _ h) k_z1 rfl (by decide) kw_6_101 kw_6_103 kp_43 kw_1_12 kw_6_104 rfl rfl pd_X11_fails ⟨(Nat.le_of_ble_eq_true rfl), (Nat.le_of_ble_eq_true rfl)⟩ dX11_division_20 rfl (Nat.le_of_ble_eq_true rfl) ⟨(Nat.le_of_ble_eq_true rfl), (Nat.le_of_ble_eq_true rfl)⟩ rfl (fun r20 u20 h => ?_)
  refine a_if_eq (tgt := 28) C dX11_division_23 (by decide) rfl (fun hc => ?_) (fun hc => ?_)
  · replace h := h.1 hc
    refine a_iload_n C dX11_division_28 rfl 1 rfl rfl ?_
    refine a_if_ne (tgt := 34) C dX11_division_29 (by decide) rfl (fun hc => ?_) (fun hc => ?_)
    · replace h := h.2 hc
      refine a_aload_n C dX11_division_34 rfl 0 rfl rfl ?_
      refine a_iload_n C dX11_division_35 rfl 1 rfl rfl ?_
      refine a_callVV C (c_X11_divide l G cy L E hE u20 o a1 ho _ h) ho rfl (by decide) kw_7_179 kw_7_181 kp_87 kw_1_12 kw_7_182 rfl rfl pd_X11_divide ⟨(Nat.le_of_ble_eq_true rfl), (Nat.le_of_ble_eq_true rfl)⟩ dX11_division_36 rfl (Nat.le_of_ble_eq_true rfl) ⟨(Nat.le_of_ble_eq_true rfl), (Nat.le_of_ble_eq_true rfl)⟩ rfl (fun u36 h => ?_)
      refine a_aload_n C dX11_division_39 rfl 0 rfl rfl ?_
      refine g_11_31 C dX11_division_40 ho kw_6_13 rfl ?_
      refine a_callSI C (c_X11_told l G cy L E hE u36 (ms_I u36 o 31)  _ h) kw_7_20 kw_7_21 kw_1_12 kw_7_22 rfl rfl pd_X11_told ⟨(Nat.le_of_ble_eq_true rfl), (Nat.le_of_ble_eq_true rfl)⟩ dX11_division_43 rfl (Nat.le_of_ble_eq_true rfl) ⟨(Nat.le_of_ble_eq_true rfl), (Nat.le_of_ble_eq_true rfl)⟩ rfl (fun r43 u43 h => ?_)
      exact a_iret C dX11_division_46 hr hlocks (Nat.le_of_ble_eq_true rfl) (Nat.le_of_ble_eq_true rfl) h
    · replace h := h.1 hc
      refine a_iconst (v := 0) C dX11_division_32 (by decide) rfl ?_
      exact a_iret C dX11_division_33 hr hlocks (Nat.le_of_ble_eq_true rfl) (Nat.le_of_ble_eq_true rfl) h
  · replace h := h.2 hc
    refine a_iconst (v := 0) C dX11_division_26 (by decide) rfl ?_
    exact a_iret C dX11_division_27 hr hlocks (Nat.le_of_ble_eq_true rfl) (Nat.le_of_ble_eq_true rfl) h
def wp_X11_division (E : ms_En) (u : ms_St) (o : Nat) (a1 : Int32) (post : Int32 → ms_St → Prop) : Prop := wp_X11_isSet E (ms_sI u o 0 0) o a1 (fun r8 u8 => (r8 = 0 → wp_X11_division_19 E o a1 post u8 1 o) ∧ (¬ r8 = 0 → wp_X11_division_19 E o a1 post u8 0 o))
set_option maxHeartbeats 4000000 in
set_option maxRecDepth 100000 in
theorem c_X11_division (l : Launch) (G : va_G) (cy : Nat → ClassId) (L : Nat → Nat) (E : ms_En) (hE : ms_WT E) (u : ms_St) (o : Nat) (a1 : Int32) (ho : ms_is E o 11) (post : Int32 → ms_St → Prop) (h : wp_X11_division E u o a1 post) : ms_MetI l ⟨"CensusWalkModel", "division", "(I)I"⟩ (Cond.code ⟨"CensusWalkModel", "division", "(I)I"⟩ prog_13_method_84_code 2 (some .int) :: lw_g) ({ frames := 8, cells := 0, slots := 0, locals := 184 } : Room) G cy L E [.ref (L o), .int a1] u post 0 0 := by
  refine ms_enterI (lv := [(0, .ref (L o)), (1, .int a1)]) (by decide) (Nat.le_of_ble_eq_true rfl) rfl ?_
  intro p e s m args below meth c A C hr hlocks
  unfold wp_X11_division at h
  refine a_aload_n C dX11_division_0 rfl 0 rfl rfl ?_
  refine a_iconst (v := 0) C dX11_division_1 (by decide) rfl ?_
  refine s_11_0 C dX11_division_2 ho kw_5_222 rfl ?_
  refine a_aload_n C dX11_division_5 rfl 0 rfl rfl ?_
  refine a_aload_n C dX11_division_6 rfl 0 rfl rfl ?_
  refine a_iload_n C dX11_division_7 rfl 1 rfl rfl ?_
  refine a_callVI C (c_X11_isSet l G cy L E hE (ms_sI u o 0 0) o a1 ho _ h) ho rfl (by decide) kw_7_140 kw_7_142 kp_80 kw_1_12 kw_7_143 rfl rfl pd_X11_isSet ⟨(Nat.le_of_ble_eq_true rfl), (Nat.le_of_ble_eq_true rfl)⟩ dX11_division_8 rfl (Nat.le_of_ble_eq_true rfl) ⟨(Nat.le_of_ble_eq_true rfl), (Nat.le_of_ble_eq_true rfl)⟩ rfl (fun r8 u8 h => ?_)
  refine a_if_ne (tgt := 18) C dX11_division_11 (by decide) rfl (fun hc => ?_) (fun hc => ?_)
  · replace h := h.2 hc
    refine a_iconst (v := 0) C dX11_division_18 (by decide) rfl ?_
    exact c_X11_division_19 C hr hlocks hE ho  u8 0 o ho h
  · replace h := h.1 hc
    refine a_iconst (v := 1) C dX11_division_14 (by decide) rfl ?_
    refine a_goto (tgt := 19) C dX11_division_15 (by decide) ?_
    exact c_X11_division_19 C hr hlocks hE ho  u8 1 o ho h

/-! CensusWalkModel.walkerOf(II)I -/
theorem pd_X11_walkerOf : (⟨"CensusWalkModel", "walkerOf", "(II)I"⟩ : MethodName).cls = "CensusWalkModel" ∧ (⟨"CensusWalkModel", "walkerOf", "(II)I"⟩ : MethodName).cls ≠ "java/lang/invoke/MethodHandle" ∧ (⟨"CensusWalkModel", "walkerOf", "(II)I"⟩ : MethodName).cls ≠ "java/lang/invoke/VarHandle" ∧ (parseMethodDescriptor (⟨"CensusWalkModel", "walkerOf", "(II)I"⟩ : MethodName).desc).map (fun d => d.parameters.length) = some 2 := by decide +kernel
def wp_X11_walkerOf_34 (E : ms_En) (o : Nat) (a1 : Int32) (a2 : Int32) (post : Int32 → ms_St → Prop)  (u : ms_St)  : Prop := post 0 u
set_option maxHeartbeats 4000000 in
set_option maxRecDepth 100000 in
theorem c_X11_walkerOf_34 {p : Program} {l : Launch} {e : Env} {s : State} {m : MethodId} {args : Array Value} {below : List Frame} {meth : Method} {c : Code} {G : va_G} {cy : Nat → ClassId} {A : Nat → Prop} {L : Nat → Nat} {E : ms_En} (C : ms_Cx p m c cX11_walkerOf 5 s args (Cond.code ⟨"CensusWalkModel", "walkerOf", "(II)I"⟩ prog_13_method_85_code 5 (some .int)) "CensusWalkModel" G cy A) (hr : meth.sig.returnType = (some .int)) (hlocks : meth.locks = false) (hE : ms_WT E) {o : Nat} {a1 : Int32} {a2 : Int32} {post : Int32 → ms_St → Prop}  (ho : ms_is E o 11)  (u : ms_St)   (h : wp_X11_walkerOf_34 E o a1 a2 post u ) : ms_At p l e ({ frames := 8, cells := 0, slots := 0, locals := 184 } : Room) s m args below meth c 5 G cy A L 0 0 (ms_QI below args s G cy L E A post 0 0) E u 34 [] [] := by
  unfold wp_X11_walkerOf_34 at h
  refine a_iconst (v := 0) C dX11_walkerOf_34 (by decide) rfl ?_
  exact a_iret C dX11_walkerOf_35 hr hlocks (Nat.le_of_ble_eq_true rfl) (Nat.le_of_ble_eq_true rfl) h
def wp_X11_walkerOf_90 (E : ms_En) (o : Nat) (a1 : Int32) (a2 : Int32) (post : Int32 → ms_St → Prop)  : Nat → ms_St → Int32 → Int32 → Prop
  | 0 => fun _ _ _ => False
  | n + 1 => fun u x3 x4 => vp_in 3 1613 ∧ (((ms_I u (ms_at E o 8) (Int32.toNatClampNeg 3)) ≤ x4 → post (-1) u) ∧ (¬ (ms_I u (ms_at E o 8) (Int32.toNatClampNeg 3)) ≤ x4 → vp_in x4 3 ∧ (((((ms_I u (ms_at E o 33) (Int32.toNatClampNeg x4)) >>> (x3 &&& 31)) &&& 1) = 1 → post x4 u) ∧ (¬ (((ms_I u (ms_at E o 33) (Int32.toNatClampNeg x4)) >>> (x3 &&& 31)) &&& 1) = 1 → wp_X11_walkerOf_90 E o a1 a2 post n u x3 (x4 + 1)))))
set_option maxHeartbeats 4000000 in
set_option maxRecDepth 100000 in
theorem c_X11_walkerOf_90 {p : Program} {l : Launch} {e : Env} {s : State} {m : MethodId} {args : Array Value} {below : List Frame} {meth : Method} {c : Code} {G : va_G} {cy : Nat → ClassId} {A : Nat → Prop} {L : Nat → Nat} {E : ms_En} (C : ms_Cx p m c cX11_walkerOf 5 s args (Cond.code ⟨"CensusWalkModel", "walkerOf", "(II)I"⟩ prog_13_method_85_code 5 (some .int)) "CensusWalkModel" G cy A) (hr : meth.sig.returnType = (some .int)) (hlocks : meth.locks = false) (hE : ms_WT E) {o : Nat} {a1 : Int32} {a2 : Int32} {post : Int32 → ms_St → Prop}  (ho : ms_is E o 11)  : ∀ (n : Nat) (u : ms_St) (x3 : Int32) (x4 : Int32), wp_X11_walkerOf_90 E o a1 a2 post n u x3 x4 → ms_At p l e ({ frames := 8, cells := 0, slots := 0, locals := 184 } : Room) s m args below meth c 5 G cy A L 0 0 (ms_QI below args s G cy L E A post 0 0) E u 90 [(0, .ref (L o)), (3, .int x3), (4, .int x4)] [] := by
  intro n
  induction n with
  | zero =>
    intro u x3 x4  h
    exact absurd h id
  | succ n ih =>
    intro u x3 x4  h
    unfold wp_X11_walkerOf_90 at h
    refine a_iload C dX11_walkerOf_90 2 rfl rfl ?_
    refine a_aload_n C dX11_walkerOf_92 rfl 0 rfl rfl ?_
    refine g_11_8 C hE dX11_walkerOf_93 ho kw_5_230 rfl ?_
    have k93 : ms_is E (ms_at E o 8) 13 := ms_wt hE ho rfl (by decide)
    have n93 : ms_N E (ms_at E o 8) = 1613 := ms_wl hE ho (by decide) (by decide) rfl
    refine a_iconst (v := 3) C dX11_walkerOf_96 (by decide) rfl ?_
    obtain ⟨q97, h⟩ := h
    refine a_iald C dX11_walkerOf_97 k93 n93 q97 rfl ?_
    refine a_icmp_ge (tgt := 125) C dX11_walkerOf_98 (by decide) rfl (fun hc => ?_) (fun hc => ?_)
    · replace h := h.1 hc
      refine a_iconst (v := (-1)) C dX11_walkerOf_125 (by decide) rfl ?_
      exact a_iret C dX11_walkerOf_126 hr hlocks (Nat.le_of_ble_eq_true rfl) (Nat.le_of_ble_eq_true rfl) h
    · replace h := h.2 hc
      refine a_aload_n C dX11_walkerOf_101 rfl 0 rfl rfl ?_
      refine g_11_33 C hE dX11_walkerOf_102 ho kw_6_15 rfl ?_
      have k102 : ms_is E (ms_at E o 33) 13 := ms_wt hE ho rfl (by decide)
      have n102 : ms_N E (ms_at E o 33) = 3 := ms_wl hE ho (by decide) (by decide) rfl
      refine a_iload C dX11_walkerOf_105 2 rfl rfl ?_
      obtain ⟨q107, h⟩ := h
      refine a_iald C dX11_walkerOf_107 k102 n102 q107 rfl ?_
      refine a_iload_n C dX11_walkerOf_108 rfl 1 rfl rfl ?_
      refine a_ishr C dX11_walkerOf_109 rfl ?_
      refine a_iconst (v := 1) C dX11_walkerOf_110 (by decide) rfl ?_
      refine a_iand C dX11_walkerOf_111 rfl ?_
      refine a_iconst (v := 1) C dX11_walkerOf_112 (by decide) rfl ?_
      refine a_icmp_ne (tgt := 119) C dX11_walkerOf_113 (by decide) rfl (fun hc => ?_) (fun hc => ?_)
      · replace h := h.2 hc
        refine a_iinc (lv' := [(0, .ref (L o)), (3, .int x3), (4, .int (x4 + 1))]) (v := (x4 + 1)) C dX11_walkerOf_119 2 rfl (congrArg (fun z => x4 + z) (by decide)) (by decide) [1, 2, 0] rfl rfl ?_
        refine a_goto (tgt := 90) C dX11_walkerOf_122 (by decide) ?_
        exact ih u x3 (x4 + 1)  h
      · replace h := h.1 hc
        refine a_iload C dX11_walkerOf_116 2 rfl rfl ?_
        exact a_iret C dX11_walkerOf_118 hr hlocks (Nat.le_of_ble_eq_true rfl) (Nat.le_of_ble_eq_true rfl) h
def wp_X11_walkerOf_71 (E : ms_En) (o : Nat) (a1 : Int32) (a2 : Int32) (post : Int32 → ms_St → Prop)  : Nat → ms_St → Int32 → Prop
  | 0 => fun _ _ => False
  | n + 1 => fun u x3 => vp_in x3 8 ∧ (((ms_I u (ms_at E o 26) (Int32.toNatClampNeg x3)) = a2 → ∃ n90, wp_X11_walkerOf_90 E o a1 a2 post n90 u x3 0) ∧ (¬ (ms_I u (ms_at E o 26) (Int32.toNatClampNeg x3)) = a2 → wp_X11_walkerOf_71 E o a1 a2 post n u (x3 + 1)))
set_option maxHeartbeats 4000000 in
set_option maxRecDepth 100000 in
theorem c_X11_walkerOf_71 {p : Program} {l : Launch} {e : Env} {s : State} {m : MethodId} {args : Array Value} {below : List Frame} {meth : Method} {c : Code} {G : va_G} {cy : Nat → ClassId} {A : Nat → Prop} {L : Nat → Nat} {E : ms_En} (C : ms_Cx p m c cX11_walkerOf 5 s args (Cond.code ⟨"CensusWalkModel", "walkerOf", "(II)I"⟩ prog_13_method_85_code 5 (some .int)) "CensusWalkModel" G cy A) (hr : meth.sig.returnType = (some .int)) (hlocks : meth.locks = false) (hE : ms_WT E) {o : Nat} {a1 : Int32} {a2 : Int32} {post : Int32 → ms_St → Prop}  (ho : ms_is E o 11)  : ∀ (n : Nat) (u : ms_St) (x3 : Int32), wp_X11_walkerOf_71 E o a1 a2 post n u x3 → ms_At p l e ({ frames := 8, cells := 0, slots := 0, locals := 184 } : Room) s m args below meth c 5 G cy A L 0 0 (ms_QI below args s G cy L E A post 0 0) E u 71 [(0, .ref (L o)), (2, .int a2), (3, .int x3)] [] := by
  intro n
  induction n with
  | zero =>
    intro u x3  h
    exact absurd h id
  | succ n ih =>
    intro u x3  h
    unfold wp_X11_walkerOf_71 at h
    refine a_aload_n C dX11_walkerOf_71 rfl 0 rfl rfl ?_
    refine g_11_26 C hE dX11_walkerOf_72 ho kw_6_8 rfl ?_
    have k72 : ms_is E (ms_at E o 26) 13 := ms_wt hE ho rfl (by decide)
    have n72 : ms_N E (ms_at E o 26) = 8 := ms_wl hE ho (by decide) (by decide) rfl
    refine a_iload_n C dX11_walkerOf_75 rfl 2 rfl rfl ?_
    obtain ⟨q76, h⟩ := h
    refine a_iald C dX11_walkerOf_76 k72 n72 q76 rfl ?_
    refine a_iload_n C dX11_walkerOf_77 rfl 1 rfl rfl ?_
    refine a_icmp_eq (tgt := 87) C dX11_walkerOf_78 (by decide) rfl (fun hc => ?_) (fun hc => ?_)
    · replace h := h.1 hc
      refine a_iconst (v := 0) C dX11_walkerOf_87 (by decide) rfl ?_
      refine a_istore (lv' := [(0, .ref (L o)), (2, .int a2), (3, .int x3), (4, .int 0)]) C dX11_walkerOf_88 (by decide) [1, 2, 3, 0] rfl rfl ?_
      refine a_sub (lv' := [(0, .ref (L o)), (3, .int x3), (4, .int 0)]) [0, 2, 3] rfl ?_
      obtain ⟨n9, h⟩ := h
      exact c_X11_walkerOf_90 C hr hlocks hE ho  n9 u x3 0  h
    · replace h := h.2 hc
      refine a_iinc (lv' := [(0, .ref (L o)), (2, .int a2), (3, .int (x3 + 1))]) (v := (x3 + 1)) C dX11_walkerOf_81 2 rfl (congrArg (fun z => x3 + z) (by decide)) (by decide) [1, 2, 0] rfl rfl ?_
      refine a_goto (tgt := 71) C dX11_walkerOf_84 (by decide) ?_
      exact ih u (x3 + 1)  h
def wp_X11_walkerOf_27 (E : ms_En) (o : Nat) (a1 : Int32) (a2 : Int32) (post : Int32 → ms_St → Prop)  (u : ms_St) (z0 : Int32) (z1 : Nat) : Prop := wp_X11_fails E u z1 z0 2 (fun r28 u28 => (r28 = 0 → (((a1 >>> (a2 &&& 31)) &&& 1) = 0 → post (-1) u28) ∧ (¬ ((a1 >>> (a2 &&& 31)) &&& 1) = 0 → wp_X11_divide E u28 o a1 (fun u48 => (0 ≤ (ms_I u48 o 32) → wp_X11_timeOf E u48 o (ms_I u48 o 32) (fun r65 u65 => ∃ n71, wp_X11_walkerOf_71 E o a1 a2 post n71 u65 0)) ∧ (¬ 0 ≤ (ms_I u48 o 32) → post (-1) u48)))) ∧ (¬ r28 = 0 → wp_X11_walkerOf_34 E o a1 a2 post u28))
set_option maxHeartbeats 4000000 in
set_option maxRecDepth 100000 in
theorem c_X11_walkerOf_27 {p : Program} {l : Launch} {e : Env} {s : State} {m : MethodId} {args : Array Value} {below : List Frame} {meth : Method} {c : Code} {G : va_G} {cy : Nat → ClassId} {A : Nat → Prop} {L : Nat → Nat} {E : ms_En} (C : ms_Cx p m c cX11_walkerOf 5 s args (Cond.code ⟨"CensusWalkModel", "walkerOf", "(II)I"⟩ prog_13_method_85_code 5 (some .int)) "CensusWalkModel" G cy A) (hr : meth.sig.returnType = (some .int)) (hlocks : meth.locks = false) (hE : ms_WT E) {o : Nat} {a1 : Int32} {a2 : Int32} {post : Int32 → ms_St → Prop}  (ho : ms_is E o 11)  (u : ms_St) (z0 : Int32) (z1 : Nat) (k_z1 : ms_is E z1 11) (h : wp_X11_walkerOf_27 E o a1 a2 post u z0 z1) : ms_At p l e ({ frames := 8, cells := 0, slots := 0, locals := 184 } : Room) s m args below meth c 5 G cy A L 0 0 (ms_QI below args s G cy L E A post 0 0) E u 27 [(0, .ref (L o)), (1, .int a1), (2, .int a2)] [.int z0, .ref (L z1)] := by
  unfold wp_X11_walkerOf_27 at h
  refine a_iconst (v := 2) C dX11_walkerOf_27 (by decide) rfl ?_
  refine a_callVI C (c_X11_fails l G cy L E hE u z1 z0 2 k_z1 _ h) k_z1 rfl (by decide) kw_6_101 kw_6_103 kp_43 kw_1_12 kw_6_104 rfl rfl pd_X11_fails ⟨(Nat.le_of_ble_eq_true rfl), (Nat.le_of_ble_eq_true rfl)⟩ dX11_walkerOf_28 rfl (Nat.le_of_ble_eq_true rfl) ⟨(Nat.le_of_ble_eq_true rfl), (Nat.le_of_ble_eq_true rfl)⟩ rfl (fun r28 u28 h => ?_)
  refine a_if_eq (tgt := 36) C dX11_walkerOf_31 (by decide) rfl (fun hc => ?_) (fun hc => ?_)
  · replace h := h.1 hc
    refine a_iload_n C dX11_walkerOf_36 rfl 1 rfl rfl ?_
    refine a_iload_n C dX11_walkerOf_37 rfl 2 rfl rfl ?_
    refine a_ishr C dX11_walkerOf_38 rfl ?_
    refine a_iconst (v := 1) C dX11_walkerOf_39 (by decide) rfl ?_
    refine a_iand C dX11_walkerOf_40 rfl ?_
    refine a_if_ne (tgt := 46) C dX11_walkerOf_41 (by decide) rfl (fun hc => ?_) (fun hc => ?_)
    · replace h := h.2 hc
      refine a_aload_n C dX11_walkerOf_46 rfl 0 rfl rfl ?_
      refine a_iload_n C dX11_walkerOf_47 rfl 1 rfl rfl ?_
      refine a_callVV C (c_X11_divide l G cy L E hE u28 o a1 ho _ h) ho rfl (by decide) kw_7_179 kw_7_181 kp_87 kw_1_12 kw_7_182 rfl rfl pd_X11_divide ⟨(Nat.le_of_ble_eq_true rfl), (Nat.le_of_ble_eq_true rfl)⟩ dX11_walkerOf_48 rfl (Nat.le_of_ble_eq_true rfl) ⟨(Nat.le_of_ble_eq_true rfl), (Nat.le_of_ble_eq_true rfl)⟩ rfl (fun u48 h => ?_)
      refine a_aload_n C dX11_walkerOf_51 rfl 0 rfl rfl ?_
      refine g_11_32 C dX11_walkerOf_52 ho kw_6_14 rfl ?_
      refine a_if_ge (tgt := 60) C dX11_walkerOf_55 (by decide) rfl (fun hc => ?_) (fun hc => ?_)
      · replace h := h.1 hc
        refine a_aload_n C dX11_walkerOf_60 rfl 0 rfl rfl ?_
        refine a_aload_n C dX11_walkerOf_61 rfl 0 rfl rfl ?_
        refine g_11_32 C dX11_walkerOf_62 ho kw_6_14 rfl ?_
        refine a_callVI C (c_X11_timeOf l G cy L E hE u48 o (ms_I u48 o 32) ho _ h) ho rfl (by decide) kw_7_183 kw_7_185 kp_88 kw_1_12 kw_7_186 rfl rfl pd_X11_timeOf ⟨(Nat.le_of_ble_eq_true rfl), (Nat.le_of_ble_eq_true rfl)⟩ dX11_walkerOf_65 rfl (Nat.le_of_ble_eq_true rfl) ⟨(Nat.le_of_ble_eq_true rfl), (Nat.le_of_ble_eq_true rfl)⟩ rfl (fun r65 u65 h => ?_)
        refine a_pop C dX11_walkerOf_68 rfl rfl ?_
        refine a_iconst (v := 0) C dX11_walkerOf_69 (by decide) rfl ?_
        refine a_istore_n (lv' := [(0, .ref (L o)), (1, .int a1), (2, .int a2), (3, .int 0)]) C dX11_walkerOf_70 rfl (by decide) [1, 2, 3, 0] rfl rfl ?_
        refine a_sub (lv' := [(0, .ref (L o)), (2, .int a2), (3, .int 0)]) [0, 2, 3] rfl ?_
        obtain ⟨n9, h⟩ := h
        exact c_X11_walkerOf_71 C hr hlocks hE ho  n9 u65 0  h
      · replace h := h.2 hc
        refine a_iconst (v := (-1)) C dX11_walkerOf_58 (by decide) rfl ?_
        exact a_iret C dX11_walkerOf_59 hr hlocks (Nat.le_of_ble_eq_true rfl) (Nat.le_of_ble_eq_true rfl) h
    · replace h := h.1 hc
      refine a_iconst (v := (-1)) C dX11_walkerOf_44 (by decide) rfl ?_
      exact a_iret C dX11_walkerOf_45 hr hlocks (Nat.le_of_ble_eq_true rfl) (Nat.le_of_ble_eq_true rfl) h
  · replace h := h.2 hc
    refine a_sub (lv' := []) [] rfl ?_
    exact c_X11_walkerOf_34 C hr hlocks hE ho  u28  h
def wp_X11_walkerOf (E : ms_En) (u : ms_St) (o : Nat) (a1 : Int32) (a2 : Int32) (post : Int32 → ms_St → Prop) : Prop := wp_X11_noHouse E (ms_sI u o 0 0) o a2 (fun r7 u7 => (r7 = 0 → wp_X11_isSet E u7 o a1 (fun r16 u16 => (r16 = 0 → wp_X11_walkerOf_27 E o a1 a2 post u16 1 o) ∧ (¬ r16 = 0 → wp_X11_walkerOf_27 E o a1 a2 post u16 0 o))) ∧ (¬ r7 = 0 → wp_X11_walkerOf_34 E o a1 a2 post u7))
set_option maxHeartbeats 4000000 in
set_option maxRecDepth 100000 in
theorem c_X11_walkerOf (l : Launch) (G : va_G) (cy : Nat → ClassId) (L : Nat → Nat) (E : ms_En) (hE : ms_WT E) (u : ms_St) (o : Nat) (a1 : Int32) (a2 : Int32) (ho : ms_is E o 11) (post : Int32 → ms_St → Prop) (h : wp_X11_walkerOf E u o a1 a2 post) : ms_MetI l ⟨"CensusWalkModel", "walkerOf", "(II)I"⟩ (Cond.code ⟨"CensusWalkModel", "walkerOf", "(II)I"⟩ prog_13_method_85_code 5 (some .int) :: lw_g) ({ frames := 8, cells := 0, slots := 0, locals := 184 } : Room) G cy L E [.ref (L o), .int a1, .int a2] u post 0 0 := by
  refine ms_enterI (lv := [(0, .ref (L o)), (1, .int a1), (2, .int a2)]) (by decide) (Nat.le_of_ble_eq_true rfl) rfl ?_
  intro p e s m args below meth c A C hr hlocks
  unfold wp_X11_walkerOf at h
  refine a_aload_n C dX11_walkerOf_0 rfl 0 rfl rfl ?_
  refine a_iconst (v := 0) C dX11_walkerOf_1 (by decide) rfl ?_
  refine s_11_0 C dX11_walkerOf_2 ho kw_5_222 rfl ?_
  refine a_aload_n C dX11_walkerOf_5 rfl 0 rfl rfl ?_
  refine a_iload_n C dX11_walkerOf_6 rfl 2 rfl rfl ?_
  refine a_callVI C (c_X11_noHouse l G cy L E hE (ms_sI u o 0 0) o a2 ho _ h) ho rfl (by decide) kw_6_228 kw_6_230 kp_61 kw_1_12 kw_6_231 rfl rfl pd_X11_noHouse ⟨(Nat.le_of_ble_eq_true rfl), (Nat.le_of_ble_eq_true rfl)⟩ dX11_walkerOf_7 rfl (Nat.le_of_ble_eq_true rfl) ⟨(Nat.le_of_ble_eq_true rfl), (Nat.le_of_ble_eq_true rfl)⟩ rfl (fun r7 u7 h => ?_)
  refine a_if_ne (tgt := 34) C dX11_walkerOf_10 (by decide) rfl (fun hc => ?_) (fun hc => ?_)
  · replace h := h.2 hc
    refine a_sub (lv' := []) [] rfl ?_
    exact c_X11_walkerOf_34 C hr hlocks hE ho  u7  h
  · replace h := h.1 hc
    refine a_aload_n C dX11_walkerOf_13 rfl 0 rfl rfl ?_
    refine a_aload_n C dX11_walkerOf_14 rfl 0 rfl rfl ?_
    refine a_iload_n C dX11_walkerOf_15 rfl 1 rfl rfl ?_
    refine a_callVI C (c_X11_isSet l G cy L E hE u7 o a1 ho _ h) ho rfl (by decide) kw_7_140 kw_7_142 kp_80 kw_1_12 kw_7_143 rfl rfl pd_X11_isSet ⟨(Nat.le_of_ble_eq_true rfl), (Nat.le_of_ble_eq_true rfl)⟩ dX11_walkerOf_16 rfl (Nat.le_of_ble_eq_true rfl) ⟨(Nat.le_of_ble_eq_true rfl), (Nat.le_of_ble_eq_true rfl)⟩ rfl (fun r16 u16 h => ?_)
    refine a_if_ne (tgt := 26) C dX11_walkerOf_19 (by decide) rfl (fun hc => ?_) (fun hc => ?_)
    · replace h := h.2 hc
      refine a_iconst (v := 0) C dX11_walkerOf_26 (by decide) rfl ?_
      exact c_X11_walkerOf_27 C hr hlocks hE ho  u16 0 o ho h
    · replace h := h.1 hc
      refine a_iconst (v := 1) C dX11_walkerOf_22 (by decide) rfl ?_
      refine a_goto (tgt := 27) C dX11_walkerOf_23 (by decide) ?_
      exact c_X11_walkerOf_27 C hr hlocks hE ho  u16 1 o ho h

/-! CensusWalkModel.remember()V -/
theorem pd_X11_remember : (⟨"CensusWalkModel", "remember", "()V"⟩ : MethodName).cls = "CensusWalkModel" ∧ (⟨"CensusWalkModel", "remember", "()V"⟩ : MethodName).cls ≠ "java/lang/invoke/MethodHandle" ∧ (⟨"CensusWalkModel", "remember", "()V"⟩ : MethodName).cls ≠ "java/lang/invoke/VarHandle" ∧ (parseMethodDescriptor (⟨"CensusWalkModel", "remember", "()V"⟩ : MethodName).desc).map (fun d => d.parameters.length) = some 0 := by decide +kernel
def wp_X11_remember_50 (E : ms_En) (o : Nat) (post : ms_St → Prop)  (u : ms_St)  : Prop := vp_in (ms_I u o 11) 8 ∧ (wp_X11_copy E u (ms_at E o 8) (ms_at E (ms_at E o 10) (Int32.toNatClampNeg (ms_I u o 11))) (fun u63 => post (ms_sI u63 o 11 ((ms_I u63 o 11) + 1))))
set_option maxHeartbeats 4000000 in
set_option maxRecDepth 100000 in
theorem c_X11_remember_50 {p : Program} {l : Launch} {e : Env} {s : State} {m : MethodId} {args : Array Value} {below : List Frame} {meth : Method} {c : Code} {G : va_G} {cy : Nat → ClassId} {A : Nat → Prop} {L : Nat → Nat} {E : ms_En} (C : ms_Cx p m c cX11_remember 2 s args (Cond.code ⟨"CensusWalkModel", "remember", "()V"⟩ prog_13_method_86_code 2 none) "CensusWalkModel" G cy A) (hr : meth.sig.returnType = none) (hlocks : meth.locks = false) (hE : ms_WT E) {o : Nat} {post : ms_St → Prop}  (ho : ms_is E o 11)  (u : ms_St)   (h : wp_X11_remember_50 E o post u ) : ms_At p l e ({ frames := 1, cells := 0, slots := 0, locals := 22 } : Room) s m args below meth c 2 G cy A L 0 0 (ms_QV below args s G cy L E A post 0 0) E u 50 [(0, .ref (L o))] [] := by
  unfold wp_X11_remember_50 at h
  refine a_aload_n C dX11_remember_50 rfl 0 rfl rfl ?_
  refine g_11_8 C hE dX11_remember_51 ho kw_5_230 rfl ?_
  have k51 : ms_is E (ms_at E o 8) 13 := ms_wt hE ho rfl (by decide)
  have n51 : ms_N E (ms_at E o 8) = 1613 := ms_wl hE ho (by decide) (by decide) rfl
  refine a_aload_n C dX11_remember_54 rfl 0 rfl rfl ?_
  refine g_11_10 C hE dX11_remember_55 ho kw_5_232 rfl ?_
  have k55 : ms_is E (ms_at E o 10) 17 := ms_wt hE ho rfl (by decide)
  have n55 : ms_N E (ms_at E o 10) = 8 := ms_wl hE ho (by decide) (by decide) rfl
  refine a_aload_n C dX11_remember_58 rfl 0 rfl rfl ?_
  refine g_11_11 C dX11_remember_59 ho kw_5_233 rfl ?_
  obtain ⟨q62, h⟩ := h
  refine a_aldI C dX11_remember_62 k55 (by decide) n55 q62 (hE.2.2 _ _ _ k55 (by decide) (by decide) (ms_in n55 q62)).1 rfl ?_
  have k62 : ms_is E (ms_at E (ms_at E o 10) (Int32.toNatClampNeg (ms_I u o 11))) 13 := (hE.2.2 _ _ _ k55 (by decide) (by decide) (ms_in n55 q62)).2.1
  have n62 : ms_N E (ms_at E (ms_at E o 10) (Int32.toNatClampNeg (ms_I u o 11))) = 1613 := (hE.2.2 _ _ _ k55 (by decide) (by decide) (ms_in n55 q62)).2.2
  refine a_callSV C (c_X11_copy l G cy L E hE u (ms_at E o 8) (ms_at E (ms_at E o 10) (Int32.toNatClampNeg (ms_I u o 11))) k51 k62 _ h) kw_6_201 kw_6_202 kw_1_12 kw_6_203 rfl rfl pd_X11_copy ⟨(Nat.le_of_ble_eq_true rfl), (Nat.le_of_ble_eq_true rfl)⟩ dX11_remember_63 rfl (Nat.le_of_ble_eq_true rfl) ⟨(Nat.le_of_ble_eq_true rfl), (Nat.le_of_ble_eq_true rfl)⟩ rfl (fun u63 h => ?_)
  refine a_aload_n C dX11_remember_66 rfl 0 rfl rfl ?_
  refine a_dup C dX11_remember_67 rfl rfl ?_
  refine g_11_11 C dX11_remember_68 ho kw_5_233 rfl ?_
  refine a_iconst (v := 1) C dX11_remember_71 (by decide) rfl ?_
  refine a_iadd C dX11_remember_72 rfl ?_
  refine s_11_11 C dX11_remember_73 ho kw_5_233 rfl ?_
  exact a_vret C dX11_remember_76 hr hlocks (Nat.le_of_ble_eq_true rfl) (Nat.le_of_ble_eq_true rfl) h
def wp_X11_remember_11 (E : ms_En) (o : Nat) (post : ms_St → Prop)  : Nat → ms_St → Int32 → Prop
  | 0 => fun _ _ => False
  | n + 1 => fun u x1 => (8 ≤ x1 → wp_X11_remember_50 E o post (ms_sI u o 11 ((ms_I u o 11) - 1))) ∧ (¬ 8 ≤ x1 → vp_in x1 8 ∧ (vp_in (x1 - 1) 8 ∧ (wp_X11_copy E u (ms_at E (ms_at E o 10) (Int32.toNatClampNeg x1)) (ms_at E (ms_at E o 10) (Int32.toNatClampNeg (x1 - 1))) (fun u31 => wp_X11_remember_11 E o post n u31 (x1 + 1)))))
set_option maxHeartbeats 4000000 in
set_option maxRecDepth 100000 in
theorem c_X11_remember_11 {p : Program} {l : Launch} {e : Env} {s : State} {m : MethodId} {args : Array Value} {below : List Frame} {meth : Method} {c : Code} {G : va_G} {cy : Nat → ClassId} {A : Nat → Prop} {L : Nat → Nat} {E : ms_En} (C : ms_Cx p m c cX11_remember 2 s args (Cond.code ⟨"CensusWalkModel", "remember", "()V"⟩ prog_13_method_86_code 2 none) "CensusWalkModel" G cy A) (hr : meth.sig.returnType = none) (hlocks : meth.locks = false) (hE : ms_WT E) {o : Nat} {post : ms_St → Prop}  (ho : ms_is E o 11)  : ∀ (n : Nat) (u : ms_St) (x1 : Int32), wp_X11_remember_11 E o post n u x1 → ms_At p l e ({ frames := 1, cells := 0, slots := 0, locals := 22 } : Room) s m args below meth c 2 G cy A L 0 0 (ms_QV below args s G cy L E A post 0 0) E u 11 [(0, .ref (L o)), (1, .int x1)] [] := by
  intro n
  induction n with
  | zero =>
    intro u x1  h
    exact absurd h id
  | succ n ih =>
    intro u x1  h
    unfold wp_X11_remember_11 at h
    refine a_iload_n C dX11_remember_11 rfl 1 rfl rfl ?_
    refine a_bipush (v := 8) C dX11_remember_12 (by decide) rfl ?_
    refine a_icmp_ge (tgt := 40) C dX11_remember_14 (by decide) rfl (fun hc => ?_) (fun hc => ?_)
    · replace h := h.1 hc
      refine a_aload_n C dX11_remember_40 rfl 0 rfl rfl ?_
      refine a_dup C dX11_remember_41 rfl rfl ?_
      refine g_11_11 C dX11_remember_42 ho kw_5_233 rfl ?_
      refine a_iconst (v := 1) C dX11_remember_45 (by decide) rfl ?_
      refine a_isub C dX11_remember_46 rfl ?_
      refine s_11_11 C dX11_remember_47 ho kw_5_233 rfl ?_
      refine a_sub (lv' := [(0, .ref (L o))]) [0] rfl ?_
      exact c_X11_remember_50 C hr hlocks hE ho  (ms_sI u o 11 ((ms_I u o 11) - 1))  h
    · replace h := h.2 hc
      refine a_aload_n C dX11_remember_17 rfl 0 rfl rfl ?_
      refine g_11_10 C hE dX11_remember_18 ho kw_5_232 rfl ?_
      have k18 : ms_is E (ms_at E o 10) 17 := ms_wt hE ho rfl (by decide)
      have n18 : ms_N E (ms_at E o 10) = 8 := ms_wl hE ho (by decide) (by decide) rfl
      refine a_iload_n C dX11_remember_21 rfl 1 rfl rfl ?_
      obtain ⟨q22, h⟩ := h
      refine a_aldI C dX11_remember_22 k18 (by decide) n18 q22 (hE.2.2 _ _ _ k18 (by decide) (by decide) (ms_in n18 q22)).1 rfl ?_
      have k22 : ms_is E (ms_at E (ms_at E o 10) (Int32.toNatClampNeg x1)) 13 := (hE.2.2 _ _ _ k18 (by decide) (by decide) (ms_in n18 q22)).2.1
      have n22 : ms_N E (ms_at E (ms_at E o 10) (Int32.toNatClampNeg x1)) = 1613 := (hE.2.2 _ _ _ k18 (by decide) (by decide) (ms_in n18 q22)).2.2
      refine a_aload_n C dX11_remember_23 rfl 0 rfl rfl ?_
      refine g_11_10 C hE dX11_remember_24 ho kw_5_232 rfl ?_
      refine a_iload_n C dX11_remember_27 rfl 1 rfl rfl ?_
      refine a_iconst (v := 1) C dX11_remember_28 (by decide) rfl ?_
      refine a_isub C dX11_remember_29 rfl ?_
      obtain ⟨q30, h⟩ := h
      refine a_aldI C dX11_remember_30 k18 (by decide) n18 q30 (hE.2.2 _ _ _ k18 (by decide) (by decide) (ms_in n18 q30)).1 rfl ?_
      have k30 : ms_is E (ms_at E (ms_at E o 10) (Int32.toNatClampNeg (x1 - 1))) 13 := (hE.2.2 _ _ _ k18 (by decide) (by decide) (ms_in n18 q30)).2.1
      have n30 : ms_N E (ms_at E (ms_at E o 10) (Int32.toNatClampNeg (x1 - 1))) = 1613 := (hE.2.2 _ _ _ k18 (by decide) (by decide) (ms_in n18 q30)).2.2
      refine a_callSV C (c_X11_copy l G cy L E hE u (ms_at E (ms_at E o 10) (Int32.toNatClampNeg x1)) (ms_at E (ms_at E o 10) (Int32.toNatClampNeg (x1 - 1))) k22 k30 _ h) kw_6_201 kw_6_202 kw_1_12 kw_6_203 rfl rfl pd_X11_copy ⟨(Nat.le_of_ble_eq_true rfl), (Nat.le_of_ble_eq_true rfl)⟩ dX11_remember_31 rfl (Nat.le_of_ble_eq_true rfl) ⟨(Nat.le_of_ble_eq_true rfl), (Nat.le_of_ble_eq_true rfl)⟩ rfl (fun u31 h => ?_)
      refine a_iinc (lv' := [(0, .ref (L o)), (1, .int (x1 + 1))]) (v := (x1 + 1)) C dX11_remember_34 1 rfl (congrArg (fun z => x1 + z) (by decide)) (by decide) [1, 0] rfl rfl ?_
      refine a_goto (tgt := 11) C dX11_remember_37 (by decide) ?_
      exact ih u31 (x1 + 1)  h
def wp_X11_remember (E : ms_En) (u : ms_St) (o : Nat) (post : ms_St → Prop) : Prop := ((ms_I u o 11) = 8 → ∃ n11, wp_X11_remember_11 E o post n11 u 1) ∧ (¬ (ms_I u o 11) = 8 → wp_X11_remember_50 E o post u)
set_option maxHeartbeats 4000000 in
set_option maxRecDepth 100000 in
theorem c_X11_remember (l : Launch) (G : va_G) (cy : Nat → ClassId) (L : Nat → Nat) (E : ms_En) (hE : ms_WT E) (u : ms_St) (o : Nat) (ho : ms_is E o 11) (post : ms_St → Prop) (h : wp_X11_remember E u o post) : ms_MetV l ⟨"CensusWalkModel", "remember", "()V"⟩ (Cond.code ⟨"CensusWalkModel", "remember", "()V"⟩ prog_13_method_86_code 2 none :: lw_g) ({ frames := 1, cells := 0, slots := 0, locals := 22 } : Room) G cy L E [.ref (L o)] u post 0 0 := by
  refine ms_enterV (lv := [(0, .ref (L o))]) (by decide) (Nat.le_of_ble_eq_true rfl) rfl ?_
  intro p e s m args below meth c A C hr hlocks
  unfold wp_X11_remember at h
  refine a_aload_n C dX11_remember_0 rfl 0 rfl rfl ?_
  refine g_11_11 C dX11_remember_1 ho kw_5_233 rfl ?_
  refine a_bipush (v := 8) C dX11_remember_4 (by decide) rfl ?_
  refine a_icmp_ne (tgt := 50) C dX11_remember_6 (by decide) rfl (fun hc => ?_) (fun hc => ?_)
  · replace h := h.2 hc
    exact c_X11_remember_50 C hr hlocks hE ho  u  h
  · replace h := h.1 hc
    refine a_iconst (v := 1) C dX11_remember_9 (by decide) rfl ?_
    refine a_istore_n (lv' := [(0, .ref (L o)), (1, .int 1)]) C dX11_remember_10 rfl (by decide) [1, 0] rfl rfl ?_
    obtain ⟨n9, h⟩ := h
    exact c_X11_remember_11 C hr hlocks hE ho  n9 u 1  h

/-! CensusWalkModel.plan(II)I -/
theorem pd_X11_plan : (⟨"CensusWalkModel", "plan", "(II)I"⟩ : MethodName).cls = "CensusWalkModel" ∧ (⟨"CensusWalkModel", "plan", "(II)I"⟩ : MethodName).cls ≠ "java/lang/invoke/MethodHandle" ∧ (⟨"CensusWalkModel", "plan", "(II)I"⟩ : MethodName).cls ≠ "java/lang/invoke/VarHandle" ∧ (parseMethodDescriptor (⟨"CensusWalkModel", "plan", "(II)I"⟩ : MethodName).desc).map (fun d => d.parameters.length) = some 2 := by decide +kernel
def wp_X11_plan_50 (E : ms_En) (o : Nat) (a1 : Int32) (a2 : Int32) (post : Int32 → ms_St → Prop)  (u : ms_St)  : Prop := post 0 u
set_option maxHeartbeats 4000000 in
set_option maxRecDepth 100000 in
theorem c_X11_plan_50 {p : Program} {l : Launch} {e : Env} {s : State} {m : MethodId} {args : Array Value} {below : List Frame} {meth : Method} {c : Code} {G : va_G} {cy : Nat → ClassId} {A : Nat → Prop} {L : Nat → Nat} {E : ms_En} (C : ms_Cx p m c cX11_plan 4 s args (Cond.code ⟨"CensusWalkModel", "plan", "(II)I"⟩ prog_13_method_87_code 4 (some .int)) "CensusWalkModel" G cy A) (hr : meth.sig.returnType = (some .int)) (hlocks : meth.locks = false) (hE : ms_WT E) {o : Nat} {a1 : Int32} {a2 : Int32} {post : Int32 → ms_St → Prop}  (ho : ms_is E o 11)  (u : ms_St)   (h : wp_X11_plan_50 E o a1 a2 post u ) : ms_At p l e ({ frames := 2, cells := 0, slots := 0, locals := 43 } : Room) s m args below meth c 4 G cy A L 0 0 (ms_QI below args s G cy L E A post 0 0) E u 50 [] [] := by
  unfold wp_X11_plan_50 at h
  refine a_iconst (v := 0) C dX11_plan_50 (by decide) rfl ?_
  exact a_iret C dX11_plan_51 hr hlocks (Nat.le_of_ble_eq_true rfl) (Nat.le_of_ble_eq_true rfl) h
def wp_X11_plan_43 (E : ms_En) (o : Nat) (a1 : Int32) (a2 : Int32) (post : Int32 → ms_St → Prop)  (u : ms_St) (z0 : Int32) (z1 : Nat) : Prop := wp_X11_fails E u z1 z0 2 (fun r44 u44 => (r44 = 0 → wp_X11_remember E u44 o (fun u53 => wp_X11_walker E u53 a1 (fun r57 u57 => vp_in (r57 + 2) 1613 ∧ (vp_in ((r57 + 3) + (ms_I u57 (ms_at E o 8) (Int32.toNatClampNeg (r57 + 2)))) 1613 ∧ (∀ w78 : ms_St, w78 = (ms_sI u57 (ms_at E o 8) (Int32.toNatClampNeg ((r57 + 3) + (ms_I u57 (ms_at E o 8) (Int32.toNatClampNeg (r57 + 2))))) a2) → (vp_in (r57 + 2) 1613 ∧ (vp_in (r57 + 2) 1613 ∧ (∀ w90 : ms_St, w90 = (ms_sI w78 (ms_at E o 8) (Int32.toNatClampNeg (r57 + 2)) ((ms_I w78 (ms_at E o 8) (Int32.toNatClampNeg (r57 + 2))) + 1)) → (vp_in (r57 + 2) 1613 ∧ (post (ms_I w90 (ms_at E o 8) (Int32.toNatClampNeg (r57 + 2))) w90)))))))))) ∧ (¬ r44 = 0 → wp_X11_plan_50 E o a1 a2 post u44))
set_option maxHeartbeats 4000000 in
set_option maxRecDepth 100000 in
theorem c_X11_plan_43 {p : Program} {l : Launch} {e : Env} {s : State} {m : MethodId} {args : Array Value} {below : List Frame} {meth : Method} {c : Code} {G : va_G} {cy : Nat → ClassId} {A : Nat → Prop} {L : Nat → Nat} {E : ms_En} (C : ms_Cx p m c cX11_plan 4 s args (Cond.code ⟨"CensusWalkModel", "plan", "(II)I"⟩ prog_13_method_87_code 4 (some .int)) "CensusWalkModel" G cy A) (hr : meth.sig.returnType = (some .int)) (hlocks : meth.locks = false) (hE : ms_WT E) {o : Nat} {a1 : Int32} {a2 : Int32} {post : Int32 → ms_St → Prop}  (ho : ms_is E o 11)  (u : ms_St) (z0 : Int32) (z1 : Nat) (k_z1 : ms_is E z1 11) (h : wp_X11_plan_43 E o a1 a2 post u z0 z1) : ms_At p l e ({ frames := 2, cells := 0, slots := 0, locals := 43 } : Room) s m args below meth c 4 G cy A L 0 0 (ms_QI below args s G cy L E A post 0 0) E u 43 [(0, .ref (L o)), (1, .int a1), (2, .int a2)] [.int z0, .ref (L z1)] := by
  unfold wp_X11_plan_43 at h
  refine a_iconst (v := 2) C dX11_plan_43 (by decide) rfl ?_
  refine a_callVI C (c_X11_fails l G cy L E hE u z1 z0 2 k_z1 _ h) k_z1 rfl (by decide) kw_6_101 kw_6_103 kp_43 kw_1_12 kw_6_104 rfl rfl pd_X11_fails ⟨(Nat.le_of_ble_eq_true rfl), (Nat.le_of_ble_eq_true rfl)⟩ dX11_plan_44 rfl (Nat.le_of_ble_eq_true rfl) ⟨(Nat.le_of_ble_eq_true rfl), (Nat.le_of_ble_eq_true rfl)⟩ rfl (fun r44 u44 h => ?_)
  refine a_if_eq (tgt := 52) C dX11_plan_47 (by decide) rfl (fun hc => ?_) (fun hc => ?_)
  · replace h := h.1 hc
    refine a_aload_n C dX11_plan_52 rfl 0 rfl rfl ?_
    refine a_callVV C (c_X11_remember l G cy L E hE u44 o ho _ h) ho rfl (by decide) kw_6_197 kw_6_199 kp_60 kw_1_12 kw_6_200 rfl rfl pd_X11_remember ⟨(Nat.le_of_ble_eq_true rfl), (Nat.le_of_ble_eq_true rfl)⟩ dX11_plan_53 rfl (Nat.le_of_ble_eq_true rfl) ⟨(Nat.le_of_ble_eq_true rfl), (Nat.le_of_ble_eq_true rfl)⟩ rfl (fun u53 h => ?_)
    refine a_iload_n C dX11_plan_56 rfl 1 rfl rfl ?_
    refine a_callSI C (c_X11_walker l G cy L E hE u53 a1  _ h) kw_6_169 kw_6_170 kw_1_12 kw_6_171 rfl rfl pd_X11_walker ⟨(Nat.le_of_ble_eq_true rfl), (Nat.le_of_ble_eq_true rfl)⟩ dX11_plan_57 rfl (Nat.le_of_ble_eq_true rfl) ⟨(Nat.le_of_ble_eq_true rfl), (Nat.le_of_ble_eq_true rfl)⟩ rfl (fun r57 u57 h => ?_)
    refine a_istore_n (lv' := [(0, .ref (L o)), (1, .int a1), (2, .int a2), (3, .int r57)]) C dX11_plan_60 rfl (by decide) [1, 2, 3, 0] rfl rfl ?_
    refine a_aload_n C dX11_plan_61 rfl 0 rfl rfl ?_
    refine g_11_8 C hE dX11_plan_62 ho kw_5_230 rfl ?_
    have k62 : ms_is E (ms_at E o 8) 13 := ms_wt hE ho rfl (by decide)
    have n62 : ms_N E (ms_at E o 8) = 1613 := ms_wl hE ho (by decide) (by decide) rfl
    refine a_iload_n C dX11_plan_65 rfl 3 rfl rfl ?_
    refine a_iconst (v := 3) C dX11_plan_66 (by decide) rfl ?_
    refine a_iadd C dX11_plan_67 rfl ?_
    refine a_aload_n C dX11_plan_68 rfl 0 rfl rfl ?_
    refine g_11_8 C hE dX11_plan_69 ho kw_5_230 rfl ?_
    refine a_iload_n C dX11_plan_72 rfl 3 rfl rfl ?_
    refine a_iconst (v := 2) C dX11_plan_73 (by decide) rfl ?_
    refine a_iadd C dX11_plan_74 rfl ?_
    obtain ⟨q75, h⟩ := h
    refine a_iald C dX11_plan_75 k62 n62 q75 rfl ?_
    refine a_iadd C dX11_plan_76 rfl ?_
    refine a_iload_n C dX11_plan_77 rfl 2 rfl rfl ?_
    obtain ⟨q78, h⟩ := h
    refine a_iast C dX11_plan_78 k62 n62 q78 rfl ?_
    refine a_nmU (fun w78 e78 => ?_)
    replace h := h w78 e78
    refine a_aload_n C dX11_plan_79 rfl 0 rfl rfl ?_
    refine g_11_8 C hE dX11_plan_80 ho kw_5_230 rfl ?_
    refine a_iload_n C dX11_plan_83 rfl 3 rfl rfl ?_
    refine a_iconst (v := 2) C dX11_plan_84 (by decide) rfl ?_
    refine a_iadd C dX11_plan_85 rfl ?_
    refine a_dup2 C dX11_plan_86 rfl rfl rfl ?_
    obtain ⟨q87, h⟩ := h
    refine a_iald C dX11_plan_87 k62 n62 q87 rfl ?_
    refine a_iconst (v := 1) C dX11_plan_88 (by decide) rfl ?_
    refine a_iadd C dX11_plan_89 rfl ?_
    obtain ⟨q90, h⟩ := h
    refine a_iast C dX11_plan_90 k62 n62 q90 rfl ?_
    refine a_nmU (fun w90 e90 => ?_)
    replace h := h w90 e90
    refine a_aload_n C dX11_plan_91 rfl 0 rfl rfl ?_
    refine g_11_8 C hE dX11_plan_92 ho kw_5_230 rfl ?_
    refine a_iload_n C dX11_plan_95 rfl 3 rfl rfl ?_
    refine a_iconst (v := 2) C dX11_plan_96 (by decide) rfl ?_
    refine a_iadd C dX11_plan_97 rfl ?_
    obtain ⟨q98, h⟩ := h
    refine a_iald C dX11_plan_98 k62 n62 q98 rfl ?_
    exact a_iret C dX11_plan_99 hr hlocks (Nat.le_of_ble_eq_true rfl) (Nat.le_of_ble_eq_true rfl) h
  · replace h := h.2 hc
    refine a_sub (lv' := []) [] rfl ?_
    exact c_X11_plan_50 C hr hlocks hE ho  u44  h
def wp_X11_plan (E : ms_En) (u : ms_St) (o : Nat) (a1 : Int32) (a2 : Int32) (post : Int32 → ms_St → Prop) : Prop := wp_X11_noWalker E (ms_sI u o 0 0) o a1 (fun r7 u7 => (r7 = 0 → wp_X11_noHouse E u7 o a2 (fun r15 u15 => (r15 = 0 → wp_X11_walker E u15 a1 (fun r27 u27 => vp_in (r27 + 2) 1613 ∧ (((ms_I u27 (ms_at E o 8) (Int32.toNatClampNeg (r27 + 2))) = 12 → wp_X11_plan_43 E o a1 a2 post u27 1 o) ∧ (¬ (ms_I u27 (ms_at E o 8) (Int32.toNatClampNeg (r27 + 2))) = 12 → wp_X11_plan_43 E o a1 a2 post u27 0 o)))) ∧ (¬ r15 = 0 → wp_X11_plan_50 E o a1 a2 post u15))) ∧ (¬ r7 = 0 → wp_X11_plan_50 E o a1 a2 post u7))
set_option maxHeartbeats 4000000 in
set_option maxRecDepth 100000 in
theorem c_X11_plan (l : Launch) (G : va_G) (cy : Nat → ClassId) (L : Nat → Nat) (E : ms_En) (hE : ms_WT E) (u : ms_St) (o : Nat) (a1 : Int32) (a2 : Int32) (ho : ms_is E o 11) (post : Int32 → ms_St → Prop) (h : wp_X11_plan E u o a1 a2 post) : ms_MetI l ⟨"CensusWalkModel", "plan", "(II)I"⟩ (Cond.code ⟨"CensusWalkModel", "plan", "(II)I"⟩ prog_13_method_87_code 4 (some .int) :: lw_g) ({ frames := 2, cells := 0, slots := 0, locals := 43 } : Room) G cy L E [.ref (L o), .int a1, .int a2] u post 0 0 := by
  refine ms_enterI (lv := [(0, .ref (L o)), (1, .int a1), (2, .int a2)]) (by decide) (Nat.le_of_ble_eq_true rfl) rfl ?_
  intro p e s m args below meth c A C hr hlocks
  unfold wp_X11_plan at h
  refine a_aload_n C dX11_plan_0 rfl 0 rfl rfl ?_
  refine a_iconst (v := 0) C dX11_plan_1 (by decide) rfl ?_
  refine s_11_0 C dX11_plan_2 ho kw_5_222 rfl ?_
  refine a_aload_n C dX11_plan_5 rfl 0 rfl rfl ?_
  refine a_iload_n C dX11_plan_6 rfl 1 rfl rfl ?_
  refine a_callVI C (c_X11_noWalker l G cy L E hE (ms_sI u o 0 0) o a1 ho _ h) ho rfl (by decide) kw_7_72 kw_7_74 kp_72 kw_1_12 kw_7_75 rfl rfl pd_X11_noWalker ⟨(Nat.le_of_ble_eq_true rfl), (Nat.le_of_ble_eq_true rfl)⟩ dX11_plan_7 rfl (Nat.le_of_ble_eq_true rfl) ⟨(Nat.le_of_ble_eq_true rfl), (Nat.le_of_ble_eq_true rfl)⟩ rfl (fun r7 u7 h => ?_)
  refine a_if_ne (tgt := 50) C dX11_plan_10 (by decide) rfl (fun hc => ?_) (fun hc => ?_)
  · replace h := h.2 hc
    refine a_sub (lv' := []) [] rfl ?_
    exact c_X11_plan_50 C hr hlocks hE ho  u7  h
  · replace h := h.1 hc
    refine a_aload_n C dX11_plan_13 rfl 0 rfl rfl ?_
    refine a_iload_n C dX11_plan_14 rfl 2 rfl rfl ?_
    refine a_callVI C (c_X11_noHouse l G cy L E hE u7 o a2 ho _ h) ho rfl (by decide) kw_6_228 kw_6_230 kp_61 kw_1_12 kw_6_231 rfl rfl pd_X11_noHouse ⟨(Nat.le_of_ble_eq_true rfl), (Nat.le_of_ble_eq_true rfl)⟩ dX11_plan_15 rfl (Nat.le_of_ble_eq_true rfl) ⟨(Nat.le_of_ble_eq_true rfl), (Nat.le_of_ble_eq_true rfl)⟩ rfl (fun r15 u15 h => ?_)
    refine a_if_ne (tgt := 50) C dX11_plan_18 (by decide) rfl (fun hc => ?_) (fun hc => ?_)
    · replace h := h.2 hc
      refine a_sub (lv' := []) [] rfl ?_
      exact c_X11_plan_50 C hr hlocks hE ho  u15  h
    · replace h := h.1 hc
      refine a_aload_n C dX11_plan_21 rfl 0 rfl rfl ?_
      refine a_aload_n C dX11_plan_22 rfl 0 rfl rfl ?_
      refine g_11_8 C hE dX11_plan_23 ho kw_5_230 rfl ?_
      have k23 : ms_is E (ms_at E o 8) 13 := ms_wt hE ho rfl (by decide)
      have n23 : ms_N E (ms_at E o 8) = 1613 := ms_wl hE ho (by decide) (by decide) rfl
      refine a_iload_n C dX11_plan_26 rfl 1 rfl rfl ?_
      refine a_callSI C (c_X11_walker l G cy L E hE u15 a1  _ h) kw_6_169 kw_6_170 kw_1_12 kw_6_171 rfl rfl pd_X11_walker ⟨(Nat.le_of_ble_eq_true rfl), (Nat.le_of_ble_eq_true rfl)⟩ dX11_plan_27 rfl (Nat.le_of_ble_eq_true rfl) ⟨(Nat.le_of_ble_eq_true rfl), (Nat.le_of_ble_eq_true rfl)⟩ rfl (fun r27 u27 h => ?_)
      refine a_iconst (v := 2) C dX11_plan_30 (by decide) rfl ?_
      refine a_iadd C dX11_plan_31 rfl ?_
      obtain ⟨q32, h⟩ := h
      refine a_iald C dX11_plan_32 k23 n23 q32 rfl ?_
      refine a_bipush (v := 12) C dX11_plan_33 (by decide) rfl ?_
      refine a_icmp_ne (tgt := 42) C dX11_plan_35 (by decide) rfl (fun hc => ?_) (fun hc => ?_)
      · replace h := h.2 hc
        refine a_iconst (v := 0) C dX11_plan_42 (by decide) rfl ?_
        exact c_X11_plan_43 C hr hlocks hE ho  u27 0 o ho h
      · replace h := h.1 hc
        refine a_iconst (v := 1) C dX11_plan_38 (by decide) rfl ?_
        refine a_goto (tgt := 43) C dX11_plan_39 (by decide) ?_
        exact c_X11_plan_43 C hr hlocks hE ho  u27 1 o ho h

/-! CensusWalkModel.unplan(I)I -/
theorem pd_X11_unplan : (⟨"CensusWalkModel", "unplan", "(I)I"⟩ : MethodName).cls = "CensusWalkModel" ∧ (⟨"CensusWalkModel", "unplan", "(I)I"⟩ : MethodName).cls ≠ "java/lang/invoke/MethodHandle" ∧ (⟨"CensusWalkModel", "unplan", "(I)I"⟩ : MethodName).cls ≠ "java/lang/invoke/VarHandle" ∧ (parseMethodDescriptor (⟨"CensusWalkModel", "unplan", "(I)I"⟩ : MethodName).desc).map (fun d => d.parameters.length) = some 1 := by decide +kernel
def wp_X11_unplan_40 (E : ms_En) (o : Nat) (a1 : Int32) (post : Int32 → ms_St → Prop)  (u : ms_St)  : Prop := post 0 u
set_option maxHeartbeats 4000000 in
set_option maxRecDepth 100000 in
theorem c_X11_unplan_40 {p : Program} {l : Launch} {e : Env} {s : State} {m : MethodId} {args : Array Value} {below : List Frame} {meth : Method} {c : Code} {G : va_G} {cy : Nat → ClassId} {A : Nat → Prop} {L : Nat → Nat} {E : ms_En} (C : ms_Cx p m c cX11_unplan 3 s args (Cond.code ⟨"CensusWalkModel", "unplan", "(I)I"⟩ prog_13_method_88_code 3 (some .int)) "CensusWalkModel" G cy A) (hr : meth.sig.returnType = (some .int)) (hlocks : meth.locks = false) (hE : ms_WT E) {o : Nat} {a1 : Int32} {post : Int32 → ms_St → Prop}  (ho : ms_is E o 11)  (u : ms_St)   (h : wp_X11_unplan_40 E o a1 post u ) : ms_At p l e ({ frames := 2, cells := 0, slots := 0, locals := 43 } : Room) s m args below meth c 3 G cy A L 0 0 (ms_QI below args s G cy L E A post 0 0) E u 40 [] [] := by
  unfold wp_X11_unplan_40 at h
  refine a_iconst (v := 0) C dX11_unplan_40 (by decide) rfl ?_
  exact a_iret C dX11_unplan_41 hr hlocks (Nat.le_of_ble_eq_true rfl) (Nat.le_of_ble_eq_true rfl) h
def wp_X11_unplan_33 (E : ms_En) (o : Nat) (a1 : Int32) (post : Int32 → ms_St → Prop)  (u : ms_St) (z0 : Int32) (z1 : Nat) : Prop := wp_X11_fails E u z1 z0 2 (fun r34 u34 => (r34 = 0 → wp_X11_remember E u34 o (fun u43 => wp_X11_walker E u43 a1 (fun r47 u47 => vp_in (r47 + 2) 1613 ∧ (vp_in (r47 + 2) 1613 ∧ (∀ w62 : ms_St, w62 = (ms_sI u47 (ms_at E o 8) (Int32.toNatClampNeg (r47 + 2)) ((ms_I u47 (ms_at E o 8) (Int32.toNatClampNeg (r47 + 2))) - 1)) → (vp_in (r47 + 2) 1613 ∧ (vp_in ((r47 + 3) + (ms_I w62 (ms_at E o 8) (Int32.toNatClampNeg (r47 + 2)))) 1613 ∧ (post (ms_I w62 (ms_at E o 8) (Int32.toNatClampNeg ((r47 + 3) + (ms_I w62 (ms_at E o 8) (Int32.toNatClampNeg (r47 + 2)))))) w62)))))))) ∧ (¬ r34 = 0 → wp_X11_unplan_40 E o a1 post u34))
set_option maxHeartbeats 4000000 in
set_option maxRecDepth 100000 in
theorem c_X11_unplan_33 {p : Program} {l : Launch} {e : Env} {s : State} {m : MethodId} {args : Array Value} {below : List Frame} {meth : Method} {c : Code} {G : va_G} {cy : Nat → ClassId} {A : Nat → Prop} {L : Nat → Nat} {E : ms_En} (C : ms_Cx p m c cX11_unplan 3 s args (Cond.code ⟨"CensusWalkModel", "unplan", "(I)I"⟩ prog_13_method_88_code 3 (some .int)) "CensusWalkModel" G cy A) (hr : meth.sig.returnType = (some .int)) (hlocks : meth.locks = false) (hE : ms_WT E) {o : Nat} {a1 : Int32} {post : Int32 → ms_St → Prop}  (ho : ms_is E o 11)  (u : ms_St) (z0 : Int32) (z1 : Nat) (k_z1 : ms_is E z1 11) (h : wp_X11_unplan_33 E o a1 post u z0 z1) : ms_At p l e ({ frames := 2, cells := 0, slots := 0, locals := 43 } : Room) s m args below meth c 3 G cy A L 0 0 (ms_QI below args s G cy L E A post 0 0) E u 33 [(0, .ref (L o)), (1, .int a1)] [.int z0, .ref (L z1)] := by
  unfold wp_X11_unplan_33 at h
  refine a_iconst (v := 2) C dX11_unplan_33 (by decide) rfl ?_
  refine a_callVI C (c_X11_fails l G cy L E hE u z1 z0 2 k_z1 _ h) k_z1 rfl (by decide) kw_6_101 kw_6_103 kp_43 kw_1_12 kw_6_104 rfl rfl pd_X11_fails ⟨(Nat.le_of_ble_eq_true rfl), (Nat.le_of_ble_eq_true rfl)⟩ dX11_unplan_34 rfl (Nat.le_of_ble_eq_true rfl) ⟨(Nat.le_of_ble_eq_true rfl), (Nat.le_of_ble_eq_true rfl)⟩ rfl (fun r34 u34 h => ?_)
  refine a_if_eq (tgt := 42) C dX11_unplan_37 (by decide) rfl (fun hc => ?_) (fun hc => ?_)
  · replace h := h.1 hc
    refine a_aload_n C dX11_unplan_42 rfl 0 rfl rfl ?_
    refine a_callVV C (c_X11_remember l G cy L E hE u34 o ho _ h) ho rfl (by decide) kw_6_197 kw_6_199 kp_60 kw_1_12 kw_6_200 rfl rfl pd_X11_remember ⟨(Nat.le_of_ble_eq_true rfl), (Nat.le_of_ble_eq_true rfl)⟩ dX11_unplan_43 rfl (Nat.le_of_ble_eq_true rfl) ⟨(Nat.le_of_ble_eq_true rfl), (Nat.le_of_ble_eq_true rfl)⟩ rfl (fun u43 h => ?_)
    refine a_iload_n C dX11_unplan_46 rfl 1 rfl rfl ?_
    refine a_callSI C (c_X11_walker l G cy L E hE u43 a1  _ h) kw_6_169 kw_6_170 kw_1_12 kw_6_171 rfl rfl pd_X11_walker ⟨(Nat.le_of_ble_eq_true rfl), (Nat.le_of_ble_eq_true rfl)⟩ dX11_unplan_47 rfl (Nat.le_of_ble_eq_true rfl) ⟨(Nat.le_of_ble_eq_true rfl), (Nat.le_of_ble_eq_true rfl)⟩ rfl (fun r47 u47 h => ?_)
    refine a_istore_n (lv' := [(0, .ref (L o)), (1, .int a1), (2, .int r47)]) C dX11_unplan_50 rfl (by decide) [1, 2, 0] rfl rfl ?_
    refine a_aload_n C dX11_unplan_51 rfl 0 rfl rfl ?_
    refine g_11_8 C hE dX11_unplan_52 ho kw_5_230 rfl ?_
    have k52 : ms_is E (ms_at E o 8) 13 := ms_wt hE ho rfl (by decide)
    have n52 : ms_N E (ms_at E o 8) = 1613 := ms_wl hE ho (by decide) (by decide) rfl
    refine a_iload_n C dX11_unplan_55 rfl 2 rfl rfl ?_
    refine a_iconst (v := 2) C dX11_unplan_56 (by decide) rfl ?_
    refine a_iadd C dX11_unplan_57 rfl ?_
    refine a_dup2 C dX11_unplan_58 rfl rfl rfl ?_
    obtain ⟨q59, h⟩ := h
    refine a_iald C dX11_unplan_59 k52 n52 q59 rfl ?_
    refine a_iconst (v := 1) C dX11_unplan_60 (by decide) rfl ?_
    refine a_isub C dX11_unplan_61 rfl ?_
    obtain ⟨q62, h⟩ := h
    refine a_iast C dX11_unplan_62 k52 n52 q62 rfl ?_
    refine a_nmU (fun w62 e62 => ?_)
    replace h := h w62 e62
    refine a_aload_n C dX11_unplan_63 rfl 0 rfl rfl ?_
    refine g_11_8 C hE dX11_unplan_64 ho kw_5_230 rfl ?_
    refine a_iload_n C dX11_unplan_67 rfl 2 rfl rfl ?_
    refine a_iconst (v := 3) C dX11_unplan_68 (by decide) rfl ?_
    refine a_iadd C dX11_unplan_69 rfl ?_
    refine a_aload_n C dX11_unplan_70 rfl 0 rfl rfl ?_
    refine g_11_8 C hE dX11_unplan_71 ho kw_5_230 rfl ?_
    refine a_iload_n C dX11_unplan_74 rfl 2 rfl rfl ?_
    refine a_iconst (v := 2) C dX11_unplan_75 (by decide) rfl ?_
    refine a_iadd C dX11_unplan_76 rfl ?_
    obtain ⟨q77, h⟩ := h
    refine a_iald C dX11_unplan_77 k52 n52 q77 rfl ?_
    refine a_iadd C dX11_unplan_78 rfl ?_
    obtain ⟨q79, h⟩ := h
    refine a_iald C dX11_unplan_79 k52 n52 q79 rfl ?_
    exact a_iret C dX11_unplan_80 hr hlocks (Nat.le_of_ble_eq_true rfl) (Nat.le_of_ble_eq_true rfl) h
  · replace h := h.2 hc
    refine a_sub (lv' := []) [] rfl ?_
    exact c_X11_unplan_40 C hr hlocks hE ho  u34  h
def wp_X11_unplan (E : ms_En) (u : ms_St) (o : Nat) (a1 : Int32) (post : Int32 → ms_St → Prop) : Prop := wp_X11_noWalker E (ms_sI u o 0 0) o a1 (fun r7 u7 => (r7 = 0 → wp_X11_walker E u7 a1 (fun r19 u19 => vp_in (r19 + 2) 1613 ∧ (((ms_I u19 (ms_at E o 8) (Int32.toNatClampNeg (r19 + 2))) = 0 → wp_X11_unplan_33 E o a1 post u19 1 o) ∧ (¬ (ms_I u19 (ms_at E o 8) (Int32.toNatClampNeg (r19 + 2))) = 0 → wp_X11_unplan_33 E o a1 post u19 0 o)))) ∧ (¬ r7 = 0 → wp_X11_unplan_40 E o a1 post u7))
set_option maxHeartbeats 4000000 in
set_option maxRecDepth 100000 in
theorem c_X11_unplan (l : Launch) (G : va_G) (cy : Nat → ClassId) (L : Nat → Nat) (E : ms_En) (hE : ms_WT E) (u : ms_St) (o : Nat) (a1 : Int32) (ho : ms_is E o 11) (post : Int32 → ms_St → Prop) (h : wp_X11_unplan E u o a1 post) : ms_MetI l ⟨"CensusWalkModel", "unplan", "(I)I"⟩ (Cond.code ⟨"CensusWalkModel", "unplan", "(I)I"⟩ prog_13_method_88_code 3 (some .int) :: lw_g) ({ frames := 2, cells := 0, slots := 0, locals := 43 } : Room) G cy L E [.ref (L o), .int a1] u post 0 0 := by
  refine ms_enterI (lv := [(0, .ref (L o)), (1, .int a1)]) (by decide) (Nat.le_of_ble_eq_true rfl) rfl ?_
  intro p e s m args below meth c A C hr hlocks
  unfold wp_X11_unplan at h
  refine a_aload_n C dX11_unplan_0 rfl 0 rfl rfl ?_
  refine a_iconst (v := 0) C dX11_unplan_1 (by decide) rfl ?_
  refine s_11_0 C dX11_unplan_2 ho kw_5_222 rfl ?_
  refine a_aload_n C dX11_unplan_5 rfl 0 rfl rfl ?_
  refine a_iload_n C dX11_unplan_6 rfl 1 rfl rfl ?_
  refine a_callVI C (c_X11_noWalker l G cy L E hE (ms_sI u o 0 0) o a1 ho _ h) ho rfl (by decide) kw_7_72 kw_7_74 kp_72 kw_1_12 kw_7_75 rfl rfl pd_X11_noWalker ⟨(Nat.le_of_ble_eq_true rfl), (Nat.le_of_ble_eq_true rfl)⟩ dX11_unplan_7 rfl (Nat.le_of_ble_eq_true rfl) ⟨(Nat.le_of_ble_eq_true rfl), (Nat.le_of_ble_eq_true rfl)⟩ rfl (fun r7 u7 h => ?_)
  refine a_if_ne (tgt := 40) C dX11_unplan_10 (by decide) rfl (fun hc => ?_) (fun hc => ?_)
  · replace h := h.2 hc
    refine a_sub (lv' := []) [] rfl ?_
    exact c_X11_unplan_40 C hr hlocks hE ho  u7  h
  · replace h := h.1 hc
    refine a_aload_n C dX11_unplan_13 rfl 0 rfl rfl ?_
    refine a_aload_n C dX11_unplan_14 rfl 0 rfl rfl ?_
    refine g_11_8 C hE dX11_unplan_15 ho kw_5_230 rfl ?_
    have k15 : ms_is E (ms_at E o 8) 13 := ms_wt hE ho rfl (by decide)
    have n15 : ms_N E (ms_at E o 8) = 1613 := ms_wl hE ho (by decide) (by decide) rfl
    refine a_iload_n C dX11_unplan_18 rfl 1 rfl rfl ?_
    refine a_callSI C (c_X11_walker l G cy L E hE u7 a1  _ h) kw_6_169 kw_6_170 kw_1_12 kw_6_171 rfl rfl pd_X11_walker ⟨(Nat.le_of_ble_eq_true rfl), (Nat.le_of_ble_eq_true rfl)⟩ dX11_unplan_19 rfl (Nat.le_of_ble_eq_true rfl) ⟨(Nat.le_of_ble_eq_true rfl), (Nat.le_of_ble_eq_true rfl)⟩ rfl (fun r19 u19 h => ?_)
    refine a_iconst (v := 2) C dX11_unplan_22 (by decide) rfl ?_
    refine a_iadd C dX11_unplan_23 rfl ?_
    obtain ⟨q24, h⟩ := h
    refine a_iald C dX11_unplan_24 k15 n15 q24 rfl ?_
    refine a_if_ne (tgt := 32) C dX11_unplan_25 (by decide) rfl (fun hc => ?_) (fun hc => ?_)
    · replace h := h.2 hc
      refine a_iconst (v := 0) C dX11_unplan_32 (by decide) rfl ?_
      exact c_X11_unplan_33 C hr hlocks hE ho  u19 0 o ho h
    · replace h := h.1 hc
      refine a_iconst (v := 1) C dX11_unplan_28 (by decide) rfl ?_
      refine a_goto (tgt := 33) C dX11_unplan_29 (by decide) ?_
      exact c_X11_unplan_33 C hr hlocks hE ho  u19 1 o ho h

/-! CensusWalkModel.setHours(III)I -/
theorem pd_X11_setHours : (⟨"CensusWalkModel", "setHours", "(III)I"⟩ : MethodName).cls = "CensusWalkModel" ∧ (⟨"CensusWalkModel", "setHours", "(III)I"⟩ : MethodName).cls ≠ "java/lang/invoke/MethodHandle" ∧ (⟨"CensusWalkModel", "setHours", "(III)I"⟩ : MethodName).cls ≠ "java/lang/invoke/VarHandle" ∧ (parseMethodDescriptor (⟨"CensusWalkModel", "setHours", "(III)I"⟩ : MethodName).desc).map (fun d => d.parameters.length) = some 3 := by decide +kernel
def wp_X11_setHours_50 (E : ms_En) (o : Nat) (a1 : Int32) (a2 : Int32) (a3 : Int32) (post : Int32 → ms_St → Prop)  (u : ms_St)  : Prop := post 0 u
set_option maxHeartbeats 4000000 in
set_option maxRecDepth 100000 in
theorem c_X11_setHours_50 {p : Program} {l : Launch} {e : Env} {s : State} {m : MethodId} {args : Array Value} {below : List Frame} {meth : Method} {c : Code} {G : va_G} {cy : Nat → ClassId} {A : Nat → Prop} {L : Nat → Nat} {E : ms_En} (C : ms_Cx p m c cX11_setHours 4 s args (Cond.code ⟨"CensusWalkModel", "setHours", "(III)I"⟩ prog_13_method_89_code 4 (some .int)) "CensusWalkModel" G cy A) (hr : meth.sig.returnType = (some .int)) (hlocks : meth.locks = false) (hE : ms_WT E) {o : Nat} {a1 : Int32} {a2 : Int32} {a3 : Int32} {post : Int32 → ms_St → Prop}  (ho : ms_is E o 11)  (u : ms_St)   (h : wp_X11_setHours_50 E o a1 a2 a3 post u ) : ms_At p l e ({ frames := 9, cells := 0, slots := 0, locals := 199 } : Room) s m args below meth c 4 G cy A L 0 0 (ms_QI below args s G cy L E A post 0 0) E u 50 [] [] := by
  unfold wp_X11_setHours_50 at h
  refine a_iconst (v := 0) C dX11_setHours_50 (by decide) rfl ?_
  exact a_iret C dX11_setHours_51 hr hlocks (Nat.le_of_ble_eq_true rfl) (Nat.le_of_ble_eq_true rfl) h
def wp_X11_setHours_43 (E : ms_En) (o : Nat) (a1 : Int32) (a2 : Int32) (a3 : Int32) (post : Int32 → ms_St → Prop)  (u : ms_St) (z0 : Int32) (z1 : Nat) : Prop := wp_X11_fails E u z1 z0 2 (fun r44 u44 => (r44 = 0 → wp_X11_remember E u44 o (fun u53 => wp_X11_house E u53 a1 (fun r61 u61 => vp_in (r61 + 4) 1613 ∧ (wp_X11_house E (ms_sI u61 (ms_at E o 8) (Int32.toNatClampNeg (r61 + 4)) a2) a1 (fun r73 u73 => vp_in (r73 + 5) 1613 ∧ (wp_X11_simulate E (ms_sI u73 (ms_at E o 8) (Int32.toNatClampNeg (r73 + 5)) a3) o (fun u81 => wp_X11_size E u81 (ms_I u81 o 24) (fun r88 u88 => post r88 u88)))))))) ∧ (¬ r44 = 0 → wp_X11_setHours_50 E o a1 a2 a3 post u44))
set_option maxHeartbeats 4000000 in
set_option maxRecDepth 100000 in
theorem c_X11_setHours_43 {p : Program} {l : Launch} {e : Env} {s : State} {m : MethodId} {args : Array Value} {below : List Frame} {meth : Method} {c : Code} {G : va_G} {cy : Nat → ClassId} {A : Nat → Prop} {L : Nat → Nat} {E : ms_En} (C : ms_Cx p m c cX11_setHours 4 s args (Cond.code ⟨"CensusWalkModel", "setHours", "(III)I"⟩ prog_13_method_89_code 4 (some .int)) "CensusWalkModel" G cy A) (hr : meth.sig.returnType = (some .int)) (hlocks : meth.locks = false) (hE : ms_WT E) {o : Nat} {a1 : Int32} {a2 : Int32} {a3 : Int32} {post : Int32 → ms_St → Prop}  (ho : ms_is E o 11)  (u : ms_St) (z0 : Int32) (z1 : Nat) (k_z1 : ms_is E z1 11) (h : wp_X11_setHours_43 E o a1 a2 a3 post u z0 z1) : ms_At p l e ({ frames := 9, cells := 0, slots := 0, locals := 199 } : Room) s m args below meth c 4 G cy A L 0 0 (ms_QI below args s G cy L E A post 0 0) E u 43 [(0, .ref (L o)), (1, .int a1), (2, .int a2), (3, .int a3)] [.int z0, .ref (L z1)] := by
  unfold wp_X11_setHours_43 at h
  refine a_iconst (v := 2) C dX11_setHours_43 (by decide) rfl ?_
  refine a_callVI C (c_X11_fails l G cy L E hE u z1 z0 2 k_z1 _ h) k_z1 rfl (by decide) kw_6_101 kw_6_103 kp_43 kw_1_12 kw_6_104 rfl rfl pd_X11_fails ⟨(Nat.le_of_ble_eq_true rfl), (Nat.le_of_ble_eq_true rfl)⟩ dX11_setHours_44 rfl (Nat.le_of_ble_eq_true rfl) ⟨(Nat.le_of_ble_eq_true rfl), (Nat.le_of_ble_eq_true rfl)⟩ rfl (fun r44 u44 h => ?_)
  refine a_if_eq (tgt := 52) C dX11_setHours_47 (by decide) rfl (fun hc => ?_) (fun hc => ?_)
  · replace h := h.1 hc
    refine a_aload_n C dX11_setHours_52 rfl 0 rfl rfl ?_
    refine a_callVV C (c_X11_remember l G cy L E hE u44 o ho _ h) ho rfl (by decide) kw_6_197 kw_6_199 kp_60 kw_1_12 kw_6_200 rfl rfl pd_X11_remember ⟨(Nat.le_of_ble_eq_true rfl), (Nat.le_of_ble_eq_true rfl)⟩ dX11_setHours_53 rfl (Nat.le_of_ble_eq_true rfl) ⟨(Nat.le_of_ble_eq_true rfl), (Nat.le_of_ble_eq_true rfl)⟩ rfl (fun u53 h => ?_)
    refine a_aload_n C dX11_setHours_56 rfl 0 rfl rfl ?_
    refine g_11_8 C hE dX11_setHours_57 ho kw_5_230 rfl ?_
    have k57 : ms_is E (ms_at E o 8) 13 := ms_wt hE ho rfl (by decide)
    have n57 : ms_N E (ms_at E o 8) = 1613 := ms_wl hE ho (by decide) (by decide) rfl
    refine a_iload_n C dX11_setHours_60 rfl 1 rfl rfl ?_
    refine a_callSI C (c_X11_house l G cy L E hE u53 a1  _ h) kw_6_160 kw_6_161 kw_1_12 kw_6_162 rfl rfl pd_X11_house ⟨(Nat.le_of_ble_eq_true rfl), (Nat.le_of_ble_eq_true rfl)⟩ dX11_setHours_61 rfl (Nat.le_of_ble_eq_true rfl) ⟨(Nat.le_of_ble_eq_true rfl), (Nat.le_of_ble_eq_true rfl)⟩ rfl (fun r61 u61 h => ?_)
    refine a_iconst (v := 4) C dX11_setHours_64 (by decide) rfl ?_
    refine a_iadd C dX11_setHours_65 rfl ?_
    refine a_iload_n C dX11_setHours_66 rfl 2 rfl rfl ?_
    obtain ⟨q67, h⟩ := h
    refine a_iast C dX11_setHours_67 k57 n57 q67 rfl ?_
    refine a_aload_n C dX11_setHours_68 rfl 0 rfl rfl ?_
    refine g_11_8 C hE dX11_setHours_69 ho kw_5_230 rfl ?_
    refine a_iload_n C dX11_setHours_72 rfl 1 rfl rfl ?_
    refine a_callSI C (c_X11_house l G cy L E hE (ms_sI u61 (ms_at E o 8) (Int32.toNatClampNeg (r61 + 4)) a2) a1  _ h) kw_6_160 kw_6_161 kw_1_12 kw_6_162 rfl rfl pd_X11_house ⟨(Nat.le_of_ble_eq_true rfl), (Nat.le_of_ble_eq_true rfl)⟩ dX11_setHours_73 rfl (Nat.le_of_ble_eq_true rfl) ⟨(Nat.le_of_ble_eq_true rfl), (Nat.le_of_ble_eq_true rfl)⟩ rfl (fun r73 u73 h => ?_)
    refine a_iconst (v := 5) C dX11_setHours_76 (by decide) rfl ?_
    refine a_iadd C dX11_setHours_77 rfl ?_
    refine a_iload_n C dX11_setHours_78 rfl 3 rfl rfl ?_
    obtain ⟨q79, h⟩ := h
    refine a_iast C dX11_setHours_79 k57 n57 q79 rfl ?_
    refine a_aload_n C dX11_setHours_80 rfl 0 rfl rfl ?_
    refine a_callVV C (c_X11_simulate l G cy L E hE (ms_sI u73 (ms_at E o 8) (Int32.toNatClampNeg (r73 + 5)) a3) o ho _ h) ho rfl (by decide) kw_7_88 kw_7_90 kp_74 kw_1_12 kw_7_91 rfl rfl pd_X11_simulate ⟨(Nat.le_of_ble_eq_true rfl), (Nat.le_of_ble_eq_true rfl)⟩ dX11_setHours_81 rfl (Nat.le_of_ble_eq_true rfl) ⟨(Nat.le_of_ble_eq_true rfl), (Nat.le_of_ble_eq_true rfl)⟩ rfl (fun u81 h => ?_)
    refine a_aload_n C dX11_setHours_84 rfl 0 rfl rfl ?_
    refine g_11_24 C dX11_setHours_85 ho kw_6_6 rfl ?_
    refine a_callSI C (c_X11_size l G cy L E hE u81 (ms_I u81 o 24)  _ h) kw_7_144 kw_7_145 kw_1_12 kw_7_146 rfl rfl pd_X11_size ⟨(Nat.le_of_ble_eq_true rfl), (Nat.le_of_ble_eq_true rfl)⟩ dX11_setHours_88 rfl (Nat.le_of_ble_eq_true rfl) ⟨(Nat.le_of_ble_eq_true rfl), (Nat.le_of_ble_eq_true rfl)⟩ rfl (fun r88 u88 h => ?_)
    exact a_iret C dX11_setHours_91 hr hlocks (Nat.le_of_ble_eq_true rfl) (Nat.le_of_ble_eq_true rfl) h
  · replace h := h.2 hc
    refine a_sub (lv' := []) [] rfl ?_
    exact c_X11_setHours_50 C hr hlocks hE ho  u44  h
def wp_X11_setHours_38 (E : ms_En) (o : Nat) (a1 : Int32) (a2 : Int32) (a3 : Int32) (post : Int32 → ms_St → Prop)  (u : ms_St) (z0 : Nat) : Prop := wp_X11_setHours_43 E o a1 a2 a3 post u 1 z0
set_option maxHeartbeats 4000000 in
set_option maxRecDepth 100000 in
theorem c_X11_setHours_38 {p : Program} {l : Launch} {e : Env} {s : State} {m : MethodId} {args : Array Value} {below : List Frame} {meth : Method} {c : Code} {G : va_G} {cy : Nat → ClassId} {A : Nat → Prop} {L : Nat → Nat} {E : ms_En} (C : ms_Cx p m c cX11_setHours 4 s args (Cond.code ⟨"CensusWalkModel", "setHours", "(III)I"⟩ prog_13_method_89_code 4 (some .int)) "CensusWalkModel" G cy A) (hr : meth.sig.returnType = (some .int)) (hlocks : meth.locks = false) (hE : ms_WT E) {o : Nat} {a1 : Int32} {a2 : Int32} {a3 : Int32} {post : Int32 → ms_St → Prop}  (ho : ms_is E o 11)  (u : ms_St) (z0 : Nat) (k_z0 : ms_is E z0 11) (h : wp_X11_setHours_38 E o a1 a2 a3 post u z0) : ms_At p l e ({ frames := 9, cells := 0, slots := 0, locals := 199 } : Room) s m args below meth c 4 G cy A L 0 0 (ms_QI below args s G cy L E A post 0 0) E u 38 [(0, .ref (L o)), (1, .int a1), (2, .int a2), (3, .int a3)] [.ref (L z0)] := by
  unfold wp_X11_setHours_38 at h
  refine a_iconst (v := 1) C dX11_setHours_38 (by decide) rfl ?_
  refine a_goto (tgt := 43) C dX11_setHours_39 (by decide) ?_
  exact c_X11_setHours_43 C hr hlocks hE ho  u 1 z0 k_z0 h
def wp_X11_setHours (E : ms_En) (u : ms_St) (o : Nat) (a1 : Int32) (a2 : Int32) (a3 : Int32) (post : Int32 → ms_St → Prop) : Prop := wp_X11_noHouse E (ms_sI u o 0 0) o a1 (fun r7 u7 => (r7 = 0 → wp_X11_in E u7 a2 0 1439 (fun r19 u19 => (r19 = 0 → wp_X11_setHours_38 E o a1 a2 a3 post u19 o) ∧ (¬ r19 = 0 → wp_X11_in E u19 a3 (a2 + 1) 1440 (fun r32 u32 => (r32 = 0 → wp_X11_setHours_38 E o a1 a2 a3 post u32 o) ∧ (¬ r32 = 0 → wp_X11_setHours_43 E o a1 a2 a3 post u32 0 o))))) ∧ (¬ r7 = 0 → wp_X11_setHours_50 E o a1 a2 a3 post u7))
set_option maxHeartbeats 4000000 in
set_option maxRecDepth 100000 in
theorem c_X11_setHours (l : Launch) (G : va_G) (cy : Nat → ClassId) (L : Nat → Nat) (E : ms_En) (hE : ms_WT E) (u : ms_St) (o : Nat) (a1 : Int32) (a2 : Int32) (a3 : Int32) (ho : ms_is E o 11) (post : Int32 → ms_St → Prop) (h : wp_X11_setHours E u o a1 a2 a3 post) : ms_MetI l ⟨"CensusWalkModel", "setHours", "(III)I"⟩ (Cond.code ⟨"CensusWalkModel", "setHours", "(III)I"⟩ prog_13_method_89_code 4 (some .int) :: lw_g) ({ frames := 9, cells := 0, slots := 0, locals := 199 } : Room) G cy L E [.ref (L o), .int a1, .int a2, .int a3] u post 0 0 := by
  refine ms_enterI (lv := [(0, .ref (L o)), (1, .int a1), (2, .int a2), (3, .int a3)]) (by decide) (Nat.le_of_ble_eq_true rfl) rfl ?_
  intro p e s m args below meth c A C hr hlocks
  unfold wp_X11_setHours at h
  refine a_aload_n C dX11_setHours_0 rfl 0 rfl rfl ?_
  refine a_iconst (v := 0) C dX11_setHours_1 (by decide) rfl ?_
  refine s_11_0 C dX11_setHours_2 ho kw_5_222 rfl ?_
  refine a_aload_n C dX11_setHours_5 rfl 0 rfl rfl ?_
  refine a_iload_n C dX11_setHours_6 rfl 1 rfl rfl ?_
  refine a_callVI C (c_X11_noHouse l G cy L E hE (ms_sI u o 0 0) o a1 ho _ h) ho rfl (by decide) kw_6_228 kw_6_230 kp_61 kw_1_12 kw_6_231 rfl rfl pd_X11_noHouse ⟨(Nat.le_of_ble_eq_true rfl), (Nat.le_of_ble_eq_true rfl)⟩ dX11_setHours_7 rfl (Nat.le_of_ble_eq_true rfl) ⟨(Nat.le_of_ble_eq_true rfl), (Nat.le_of_ble_eq_true rfl)⟩ rfl (fun r7 u7 h => ?_)
  refine a_if_ne (tgt := 50) C dX11_setHours_10 (by decide) rfl (fun hc => ?_) (fun hc => ?_)
  · replace h := h.2 hc
    refine a_sub (lv' := []) [] rfl ?_
    exact c_X11_setHours_50 C hr hlocks hE ho  u7  h
  · replace h := h.1 hc
    refine a_aload_n C dX11_setHours_13 rfl 0 rfl rfl ?_
    refine a_iload_n C dX11_setHours_14 rfl 2 rfl rfl ?_
    refine a_iconst (v := 0) C dX11_setHours_15 (by decide) rfl ?_
    refine a_sipush (v := 1439) C dX11_setHours_16 (by decide) rfl ?_
    refine a_callSI C (c_X11_in l G cy L E hE u7 a2 0 1439  _ h) kw_6_98 kw_6_99 kw_1_12 kw_6_100 rfl rfl pd_X11_in ⟨(Nat.le_of_ble_eq_true rfl), (Nat.le_of_ble_eq_true rfl)⟩ dX11_setHours_19 rfl (Nat.le_of_ble_eq_true rfl) ⟨(Nat.le_of_ble_eq_true rfl), (Nat.le_of_ble_eq_true rfl)⟩ rfl (fun r19 u19 h => ?_)
    refine a_if_eq (tgt := 38) C dX11_setHours_22 (by decide) rfl (fun hc => ?_) (fun hc => ?_)
    · replace h := h.1 hc
      exact c_X11_setHours_38 C hr hlocks hE ho  u19 o ho h
    · replace h := h.2 hc
      refine a_iload_n C dX11_setHours_25 rfl 3 rfl rfl ?_
      refine a_iload_n C dX11_setHours_26 rfl 2 rfl rfl ?_
      refine a_iconst (v := 1) C dX11_setHours_27 (by decide) rfl ?_
      refine a_iadd C dX11_setHours_28 rfl ?_
      refine a_sipush (v := 1440) C dX11_setHours_29 (by decide) rfl ?_
      refine a_callSI C (c_X11_in l G cy L E hE u19 a3 (a2 + 1) 1440  _ h) kw_6_98 kw_6_99 kw_1_12 kw_6_100 rfl rfl pd_X11_in ⟨(Nat.le_of_ble_eq_true rfl), (Nat.le_of_ble_eq_true rfl)⟩ dX11_setHours_32 rfl (Nat.le_of_ble_eq_true rfl) ⟨(Nat.le_of_ble_eq_true rfl), (Nat.le_of_ble_eq_true rfl)⟩ rfl (fun r32 u32 h => ?_)
      refine a_if_ne (tgt := 42) C dX11_setHours_35 (by decide) rfl (fun hc => ?_) (fun hc => ?_)
      · replace h := h.2 hc
        refine a_iconst (v := 0) C dX11_setHours_42 (by decide) rfl ?_
        exact c_X11_setHours_43 C hr hlocks hE ho  u32 0 o ho h
      · replace h := h.1 hc
        exact c_X11_setHours_38 C hr hlocks hE ho  u32 o ho h

/-! CensusWalkModel.setDog(IZ)Z -/
theorem pd_X11_setDog : (⟨"CensusWalkModel", "setDog", "(IZ)Z"⟩ : MethodName).cls = "CensusWalkModel" ∧ (⟨"CensusWalkModel", "setDog", "(IZ)Z"⟩ : MethodName).cls ≠ "java/lang/invoke/MethodHandle" ∧ (⟨"CensusWalkModel", "setDog", "(IZ)Z"⟩ : MethodName).cls ≠ "java/lang/invoke/VarHandle" ∧ (parseMethodDescriptor (⟨"CensusWalkModel", "setDog", "(IZ)Z"⟩ : MethodName).desc).map (fun d => d.parameters.length) = some 2 := by decide +kernel
def wp_X11_setDog_61 (E : ms_En) (o : Nat) (a1 : Int32) (a2 : Int32) (post : Int32 → ms_St → Prop)  (u : ms_St) (x3 : Int32) (z0 : Int32) (z1 : Int32) (z2 : Nat) : Prop := vp_in z1 1613 ∧ ((x3 = 0 ∨ x3 = 1) ∧ (post x3 (ms_sI u z2 (Int32.toNatClampNeg z1) z0)))
set_option maxHeartbeats 4000000 in
set_option maxRecDepth 100000 in
theorem c_X11_setDog_61 {p : Program} {l : Launch} {e : Env} {s : State} {m : MethodId} {args : Array Value} {below : List Frame} {meth : Method} {c : Code} {G : va_G} {cy : Nat → ClassId} {A : Nat → Prop} {L : Nat → Nat} {E : ms_En} (C : ms_Cx p m c cX11_setDog 4 s args (Cond.code ⟨"CensusWalkModel", "setDog", "(IZ)Z"⟩ prog_13_method_90_code 4 (some .boolean)) "CensusWalkModel" G cy A) (hr : meth.sig.returnType = (some .boolean)) (hlocks : meth.locks = false) (hE : ms_WT E) {o : Nat} {a1 : Int32} {a2 : Int32} {post : Int32 → ms_St → Prop}  (ho : ms_is E o 11)  (u : ms_St) (x3 : Int32) (z0 : Int32) (z1 : Int32) (z2 : Nat) (k_z2 : ms_is E z2 13) (n_z2 : ms_N E z2 = 1613) (h : wp_X11_setDog_61 E o a1 a2 post u x3 z0 z1 z2) : ms_At p l e ({ frames := 2, cells := 0, slots := 0, locals := 43 } : Room) s m args below meth c 4 G cy A L 0 0 (ms_QI below args s G cy L E A post 0 0) E u 61 [(3, .int x3)] [.int z0, .int z1, .ref (L z2)] := by
  unfold wp_X11_setDog_61 at h
  obtain ⟨q61, h⟩ := h
  refine a_iast C dX11_setDog_61 k_z2 n_z2 q61 rfl ?_
  refine a_iload_n C dX11_setDog_62 rfl 0 rfl rfl ?_
  obtain ⟨q63, h⟩ := h
  exact a_zret C dX11_setDog_63 hr hlocks (Nat.le_of_ble_eq_true rfl) (Nat.le_of_ble_eq_true rfl) (ms_nz q63) h
def wp_X11_setDog_40 (E : ms_En) (o : Nat) (a1 : Int32) (a2 : Int32) (post : Int32 → ms_St → Prop)  (u : ms_St) (z0 : Int32) : Prop := wp_X11_house E u a1 (fun r46 u46 => (a2 = 0 → wp_X11_setDog_61 E o a1 a2 post u46 z0 0 (r46 + 6) (ms_at E o 8)) ∧ (¬ a2 = 0 → wp_X11_setDog_61 E o a1 a2 post u46 z0 1 (r46 + 6) (ms_at E o 8)))
set_option maxHeartbeats 4000000 in
set_option maxRecDepth 100000 in
theorem c_X11_setDog_40 {p : Program} {l : Launch} {e : Env} {s : State} {m : MethodId} {args : Array Value} {below : List Frame} {meth : Method} {c : Code} {G : va_G} {cy : Nat → ClassId} {A : Nat → Prop} {L : Nat → Nat} {E : ms_En} (C : ms_Cx p m c cX11_setDog 4 s args (Cond.code ⟨"CensusWalkModel", "setDog", "(IZ)Z"⟩ prog_13_method_90_code 4 (some .boolean)) "CensusWalkModel" G cy A) (hr : meth.sig.returnType = (some .boolean)) (hlocks : meth.locks = false) (hE : ms_WT E) {o : Nat} {a1 : Int32} {a2 : Int32} {post : Int32 → ms_St → Prop}  (ho : ms_is E o 11)  (u : ms_St) (z0 : Int32)  (h : wp_X11_setDog_40 E o a1 a2 post u z0) : ms_At p l e ({ frames := 2, cells := 0, slots := 0, locals := 43 } : Room) s m args below meth c 4 G cy A L 0 0 (ms_QI below args s G cy L E A post 0 0) E u 40 [(0, .ref (L o)), (1, .int a1), (2, .int a2)] [.int z0] := by
  unfold wp_X11_setDog_40 at h
  refine a_istore_n (lv' := [(0, .ref (L o)), (1, .int a1), (2, .int a2), (3, .int z0)]) C dX11_setDog_40 rfl (by decide) [1, 2, 3, 0] rfl rfl ?_
  refine a_aload_n C dX11_setDog_41 rfl 0 rfl rfl ?_
  refine g_11_8 C hE dX11_setDog_42 ho kw_5_230 rfl ?_
  have k42 : ms_is E (ms_at E o 8) 13 := ms_wt hE ho rfl (by decide)
  have n42 : ms_N E (ms_at E o 8) = 1613 := ms_wl hE ho (by decide) (by decide) rfl
  refine a_iload_n C dX11_setDog_45 rfl 1 rfl rfl ?_
  refine a_callSI C (c_X11_house l G cy L E hE u a1  _ h) kw_6_160 kw_6_161 kw_1_12 kw_6_162 rfl rfl pd_X11_house ⟨(Nat.le_of_ble_eq_true rfl), (Nat.le_of_ble_eq_true rfl)⟩ dX11_setDog_46 rfl (Nat.le_of_ble_eq_true rfl) ⟨(Nat.le_of_ble_eq_true rfl), (Nat.le_of_ble_eq_true rfl)⟩ rfl (fun r46 u46 h => ?_)
  refine a_bipush (v := 6) C dX11_setDog_49 (by decide) rfl ?_
  refine a_iadd C dX11_setDog_51 rfl ?_
  refine a_iload_n C dX11_setDog_52 rfl 2 rfl rfl ?_
  refine a_if_eq (tgt := 60) C dX11_setDog_53 (by decide) rfl (fun hc => ?_) (fun hc => ?_)
  · replace h := h.1 hc
    refine a_iconst (v := 0) C dX11_setDog_60 (by decide) rfl ?_
    refine a_sub (lv' := [(3, .int z0)]) [3] rfl ?_
    exact c_X11_setDog_61 C hr hlocks hE ho  u46 z0 0 (r46 + 6) (ms_at E o 8) k42 n42 h
  · replace h := h.2 hc
    refine a_iconst (v := 1) C dX11_setDog_56 (by decide) rfl ?_
    refine a_goto (tgt := 61) C dX11_setDog_57 (by decide) ?_
    refine a_sub (lv' := [(3, .int z0)]) [3] rfl ?_
    exact c_X11_setDog_61 C hr hlocks hE ho  u46 z0 1 (r46 + 6) (ms_at E o 8) k42 n42 h
def wp_X11_setDog (E : ms_En) (u : ms_St) (o : Nat) (a1 : Int32) (a2 : Int32) (post : Int32 → ms_St → Prop) : Prop := wp_X11_noHouse E (ms_sI u o 0 0) o a1 (fun r7 u7 => (r7 = 0 → wp_X11_remember E u7 o (fun u16 => wp_X11_house E u16 a1 (fun r24 u24 => vp_in (r24 + 6) 1613 ∧ (((ms_I u24 (ms_at E o 8) (Int32.toNatClampNeg (r24 + 6))) = 1 → wp_X11_setDog_40 E o a1 a2 post u24 1) ∧ (¬ (ms_I u24 (ms_at E o 8) (Int32.toNatClampNeg (r24 + 6))) = 1 → wp_X11_setDog_40 E o a1 a2 post u24 0))))) ∧ (¬ r7 = 0 → post 0 u7))
set_option maxHeartbeats 4000000 in
set_option maxRecDepth 100000 in
theorem c_X11_setDog (l : Launch) (G : va_G) (cy : Nat → ClassId) (L : Nat → Nat) (E : ms_En) (hE : ms_WT E) (u : ms_St) (o : Nat) (a1 : Int32) (a2 : Int32) (ho : ms_is E o 11) (post : Int32 → ms_St → Prop) (h : wp_X11_setDog E u o a1 a2 post) : ms_MetI l ⟨"CensusWalkModel", "setDog", "(IZ)Z"⟩ (Cond.code ⟨"CensusWalkModel", "setDog", "(IZ)Z"⟩ prog_13_method_90_code 4 (some .boolean) :: lw_g) ({ frames := 2, cells := 0, slots := 0, locals := 43 } : Room) G cy L E [.ref (L o), .int a1, .int a2] u post 0 0 := by
  refine ms_enterI (lv := [(0, .ref (L o)), (1, .int a1), (2, .int a2)]) (by decide) (Nat.le_of_ble_eq_true rfl) rfl ?_
  intro p e s m args below meth c A C hr hlocks
  unfold wp_X11_setDog at h
  refine a_aload_n C dX11_setDog_0 rfl 0 rfl rfl ?_
  refine a_iconst (v := 0) C dX11_setDog_1 (by decide) rfl ?_
  refine s_11_0 C dX11_setDog_2 ho kw_5_222 rfl ?_
  refine a_aload_n C dX11_setDog_5 rfl 0 rfl rfl ?_
  refine a_iload_n C dX11_setDog_6 rfl 1 rfl rfl ?_
  refine a_callVI C (c_X11_noHouse l G cy L E hE (ms_sI u o 0 0) o a1 ho _ h) ho rfl (by decide) kw_6_228 kw_6_230 kp_61 kw_1_12 kw_6_231 rfl rfl pd_X11_noHouse ⟨(Nat.le_of_ble_eq_true rfl), (Nat.le_of_ble_eq_true rfl)⟩ dX11_setDog_7 rfl (Nat.le_of_ble_eq_true rfl) ⟨(Nat.le_of_ble_eq_true rfl), (Nat.le_of_ble_eq_true rfl)⟩ rfl (fun r7 u7 h => ?_)
  refine a_if_eq (tgt := 15) C dX11_setDog_10 (by decide) rfl (fun hc => ?_) (fun hc => ?_)
  · replace h := h.1 hc
    refine a_aload_n C dX11_setDog_15 rfl 0 rfl rfl ?_
    refine a_callVV C (c_X11_remember l G cy L E hE u7 o ho _ h) ho rfl (by decide) kw_6_197 kw_6_199 kp_60 kw_1_12 kw_6_200 rfl rfl pd_X11_remember ⟨(Nat.le_of_ble_eq_true rfl), (Nat.le_of_ble_eq_true rfl)⟩ dX11_setDog_16 rfl (Nat.le_of_ble_eq_true rfl) ⟨(Nat.le_of_ble_eq_true rfl), (Nat.le_of_ble_eq_true rfl)⟩ rfl (fun u16 h => ?_)
    refine a_aload_n C dX11_setDog_19 rfl 0 rfl rfl ?_
    refine g_11_8 C hE dX11_setDog_20 ho kw_5_230 rfl ?_
    have k20 : ms_is E (ms_at E o 8) 13 := ms_wt hE ho rfl (by decide)
    have n20 : ms_N E (ms_at E o 8) = 1613 := ms_wl hE ho (by decide) (by decide) rfl
    refine a_iload_n C dX11_setDog_23 rfl 1 rfl rfl ?_
    refine a_callSI C (c_X11_house l G cy L E hE u16 a1  _ h) kw_6_160 kw_6_161 kw_1_12 kw_6_162 rfl rfl pd_X11_house ⟨(Nat.le_of_ble_eq_true rfl), (Nat.le_of_ble_eq_true rfl)⟩ dX11_setDog_24 rfl (Nat.le_of_ble_eq_true rfl) ⟨(Nat.le_of_ble_eq_true rfl), (Nat.le_of_ble_eq_true rfl)⟩ rfl (fun r24 u24 h => ?_)
    refine a_bipush (v := 6) C dX11_setDog_27 (by decide) rfl ?_
    refine a_iadd C dX11_setDog_29 rfl ?_
    obtain ⟨q30, h⟩ := h
    refine a_iald C dX11_setDog_30 k20 n20 q30 rfl ?_
    refine a_iconst (v := 1) C dX11_setDog_31 (by decide) rfl ?_
    refine a_icmp_ne (tgt := 39) C dX11_setDog_32 (by decide) rfl (fun hc => ?_) (fun hc => ?_)
    · replace h := h.2 hc
      refine a_iconst (v := 0) C dX11_setDog_39 (by decide) rfl ?_
      exact c_X11_setDog_40 C hr hlocks hE ho  u24 0  h
    · replace h := h.1 hc
      refine a_iconst (v := 1) C dX11_setDog_35 (by decide) rfl ?_
      refine a_goto (tgt := 40) C dX11_setDog_36 (by decide) ?_
      exact c_X11_setDog_40 C hr hlocks hE ho  u24 1  h
  · replace h := h.2 hc
    refine a_iconst (v := 0) C dX11_setDog_13 (by decide) rfl ?_
    exact a_zret C dX11_setDog_14 hr hlocks (Nat.le_of_ble_eq_true rfl) (Nat.le_of_ble_eq_true rfl) rfl h

/-! CensusWalkModel.setOpen(IZ)Z -/
theorem pd_X11_setOpen : (⟨"CensusWalkModel", "setOpen", "(IZ)Z"⟩ : MethodName).cls = "CensusWalkModel" ∧ (⟨"CensusWalkModel", "setOpen", "(IZ)Z"⟩ : MethodName).cls ≠ "java/lang/invoke/MethodHandle" ∧ (⟨"CensusWalkModel", "setOpen", "(IZ)Z"⟩ : MethodName).cls ≠ "java/lang/invoke/VarHandle" ∧ (parseMethodDescriptor (⟨"CensusWalkModel", "setOpen", "(IZ)Z"⟩ : MethodName).desc).map (fun d => d.parameters.length) = some 2 := by decide +kernel
def wp_X11_setOpen_58 (E : ms_En) (o : Nat) (a1 : Int32) (a2 : Int32) (post : Int32 → ms_St → Prop)  (u : ms_St) (x3 : Int32) (z0 : Int32) (z1 : Int32) (z2 : Nat) : Prop := vp_in z1 1613 ∧ ((x3 = 0 ∨ x3 = 1) ∧ (post x3 (ms_sI u z2 (Int32.toNatClampNeg z1) z0)))
set_option maxHeartbeats 4000000 in
set_option maxRecDepth 100000 in
theorem c_X11_setOpen_58 {p : Program} {l : Launch} {e : Env} {s : State} {m : MethodId} {args : Array Value} {below : List Frame} {meth : Method} {c : Code} {G : va_G} {cy : Nat → ClassId} {A : Nat → Prop} {L : Nat → Nat} {E : ms_En} (C : ms_Cx p m c cX11_setOpen 4 s args (Cond.code ⟨"CensusWalkModel", "setOpen", "(IZ)Z"⟩ prog_13_method_91_code 4 (some .boolean)) "CensusWalkModel" G cy A) (hr : meth.sig.returnType = (some .boolean)) (hlocks : meth.locks = false) (hE : ms_WT E) {o : Nat} {a1 : Int32} {a2 : Int32} {post : Int32 → ms_St → Prop}  (ho : ms_is E o 11)  (u : ms_St) (x3 : Int32) (z0 : Int32) (z1 : Int32) (z2 : Nat) (k_z2 : ms_is E z2 13) (n_z2 : ms_N E z2 = 1613) (h : wp_X11_setOpen_58 E o a1 a2 post u x3 z0 z1 z2) : ms_At p l e ({ frames := 2, cells := 0, slots := 0, locals := 43 } : Room) s m args below meth c 4 G cy A L 0 0 (ms_QI below args s G cy L E A post 0 0) E u 58 [(3, .int x3)] [.int z0, .int z1, .ref (L z2)] := by
  unfold wp_X11_setOpen_58 at h
  obtain ⟨q58, h⟩ := h
  refine a_iast C dX11_setOpen_58 k_z2 n_z2 q58 rfl ?_
  refine a_iload_n C dX11_setOpen_59 rfl 0 rfl rfl ?_
  obtain ⟨q60, h⟩ := h
  exact a_zret C dX11_setOpen_60 hr hlocks (Nat.le_of_ble_eq_true rfl) (Nat.le_of_ble_eq_true rfl) (ms_nz q60) h
def wp_X11_setOpen_38 (E : ms_En) (o : Nat) (a1 : Int32) (a2 : Int32) (post : Int32 → ms_St → Prop)  (u : ms_St) (z0 : Int32) : Prop := wp_X11_street E u a1 (fun r44 u44 => (a2 = 0 → wp_X11_setOpen_58 E o a1 a2 post u44 z0 1 (r44 + 3) (ms_at E o 8)) ∧ (¬ a2 = 0 → wp_X11_setOpen_58 E o a1 a2 post u44 z0 0 (r44 + 3) (ms_at E o 8)))
set_option maxHeartbeats 4000000 in
set_option maxRecDepth 100000 in
theorem c_X11_setOpen_38 {p : Program} {l : Launch} {e : Env} {s : State} {m : MethodId} {args : Array Value} {below : List Frame} {meth : Method} {c : Code} {G : va_G} {cy : Nat → ClassId} {A : Nat → Prop} {L : Nat → Nat} {E : ms_En} (C : ms_Cx p m c cX11_setOpen 4 s args (Cond.code ⟨"CensusWalkModel", "setOpen", "(IZ)Z"⟩ prog_13_method_91_code 4 (some .boolean)) "CensusWalkModel" G cy A) (hr : meth.sig.returnType = (some .boolean)) (hlocks : meth.locks = false) (hE : ms_WT E) {o : Nat} {a1 : Int32} {a2 : Int32} {post : Int32 → ms_St → Prop}  (ho : ms_is E o 11)  (u : ms_St) (z0 : Int32)  (h : wp_X11_setOpen_38 E o a1 a2 post u z0) : ms_At p l e ({ frames := 2, cells := 0, slots := 0, locals := 43 } : Room) s m args below meth c 4 G cy A L 0 0 (ms_QI below args s G cy L E A post 0 0) E u 38 [(0, .ref (L o)), (1, .int a1), (2, .int a2)] [.int z0] := by
  unfold wp_X11_setOpen_38 at h
  refine a_istore_n (lv' := [(0, .ref (L o)), (1, .int a1), (2, .int a2), (3, .int z0)]) C dX11_setOpen_38 rfl (by decide) [1, 2, 3, 0] rfl rfl ?_
  refine a_aload_n C dX11_setOpen_39 rfl 0 rfl rfl ?_
  refine g_11_8 C hE dX11_setOpen_40 ho kw_5_230 rfl ?_
  have k40 : ms_is E (ms_at E o 8) 13 := ms_wt hE ho rfl (by decide)
  have n40 : ms_N E (ms_at E o 8) = 1613 := ms_wl hE ho (by decide) (by decide) rfl
  refine a_iload_n C dX11_setOpen_43 rfl 1 rfl rfl ?_
  refine a_callSI C (c_X11_street l G cy L E hE u a1  _ h) kw_6_152 kw_6_153 kw_1_12 kw_6_154 rfl rfl pd_X11_street ⟨(Nat.le_of_ble_eq_true rfl), (Nat.le_of_ble_eq_true rfl)⟩ dX11_setOpen_44 rfl (Nat.le_of_ble_eq_true rfl) ⟨(Nat.le_of_ble_eq_true rfl), (Nat.le_of_ble_eq_true rfl)⟩ rfl (fun r44 u44 h => ?_)
  refine a_iconst (v := 3) C dX11_setOpen_47 (by decide) rfl ?_
  refine a_iadd C dX11_setOpen_48 rfl ?_
  refine a_iload_n C dX11_setOpen_49 rfl 2 rfl rfl ?_
  refine a_if_eq (tgt := 57) C dX11_setOpen_50 (by decide) rfl (fun hc => ?_) (fun hc => ?_)
  · replace h := h.1 hc
    refine a_iconst (v := 1) C dX11_setOpen_57 (by decide) rfl ?_
    refine a_sub (lv' := [(3, .int z0)]) [3] rfl ?_
    exact c_X11_setOpen_58 C hr hlocks hE ho  u44 z0 1 (r44 + 3) (ms_at E o 8) k40 n40 h
  · replace h := h.2 hc
    refine a_iconst (v := 0) C dX11_setOpen_53 (by decide) rfl ?_
    refine a_goto (tgt := 58) C dX11_setOpen_54 (by decide) ?_
    refine a_sub (lv' := [(3, .int z0)]) [3] rfl ?_
    exact c_X11_setOpen_58 C hr hlocks hE ho  u44 z0 0 (r44 + 3) (ms_at E o 8) k40 n40 h
def wp_X11_setOpen (E : ms_En) (u : ms_St) (o : Nat) (a1 : Int32) (a2 : Int32) (post : Int32 → ms_St → Prop) : Prop := wp_X11_noStreet E (ms_sI u o 0 0) o a1 (fun r7 u7 => (r7 = 0 → wp_X11_remember E u7 o (fun u16 => wp_X11_street E u16 a1 (fun r24 u24 => vp_in (r24 + 3) 1613 ∧ (((ms_I u24 (ms_at E o 8) (Int32.toNatClampNeg (r24 + 3))) = 0 → wp_X11_setOpen_38 E o a1 a2 post u24 1) ∧ (¬ (ms_I u24 (ms_at E o 8) (Int32.toNatClampNeg (r24 + 3))) = 0 → wp_X11_setOpen_38 E o a1 a2 post u24 0))))) ∧ (¬ r7 = 0 → post 0 u7))
set_option maxHeartbeats 4000000 in
set_option maxRecDepth 100000 in
theorem c_X11_setOpen (l : Launch) (G : va_G) (cy : Nat → ClassId) (L : Nat → Nat) (E : ms_En) (hE : ms_WT E) (u : ms_St) (o : Nat) (a1 : Int32) (a2 : Int32) (ho : ms_is E o 11) (post : Int32 → ms_St → Prop) (h : wp_X11_setOpen E u o a1 a2 post) : ms_MetI l ⟨"CensusWalkModel", "setOpen", "(IZ)Z"⟩ (Cond.code ⟨"CensusWalkModel", "setOpen", "(IZ)Z"⟩ prog_13_method_91_code 4 (some .boolean) :: lw_g) ({ frames := 2, cells := 0, slots := 0, locals := 43 } : Room) G cy L E [.ref (L o), .int a1, .int a2] u post 0 0 := by
  refine ms_enterI (lv := [(0, .ref (L o)), (1, .int a1), (2, .int a2)]) (by decide) (Nat.le_of_ble_eq_true rfl) rfl ?_
  intro p e s m args below meth c A C hr hlocks
  unfold wp_X11_setOpen at h
  refine a_aload_n C dX11_setOpen_0 rfl 0 rfl rfl ?_
  refine a_iconst (v := 0) C dX11_setOpen_1 (by decide) rfl ?_
  refine s_11_0 C dX11_setOpen_2 ho kw_5_222 rfl ?_
  refine a_aload_n C dX11_setOpen_5 rfl 0 rfl rfl ?_
  refine a_iload_n C dX11_setOpen_6 rfl 1 rfl rfl ?_
  refine a_callVI C (c_X11_noStreet l G cy L E hE (ms_sI u o 0 0) o a1 ho _ h) ho rfl (by decide) kw_7_35 kw_7_37 kp_69 kw_1_12 kw_7_38 rfl rfl pd_X11_noStreet ⟨(Nat.le_of_ble_eq_true rfl), (Nat.le_of_ble_eq_true rfl)⟩ dX11_setOpen_7 rfl (Nat.le_of_ble_eq_true rfl) ⟨(Nat.le_of_ble_eq_true rfl), (Nat.le_of_ble_eq_true rfl)⟩ rfl (fun r7 u7 h => ?_)
  refine a_if_eq (tgt := 15) C dX11_setOpen_10 (by decide) rfl (fun hc => ?_) (fun hc => ?_)
  · replace h := h.1 hc
    refine a_aload_n C dX11_setOpen_15 rfl 0 rfl rfl ?_
    refine a_callVV C (c_X11_remember l G cy L E hE u7 o ho _ h) ho rfl (by decide) kw_6_197 kw_6_199 kp_60 kw_1_12 kw_6_200 rfl rfl pd_X11_remember ⟨(Nat.le_of_ble_eq_true rfl), (Nat.le_of_ble_eq_true rfl)⟩ dX11_setOpen_16 rfl (Nat.le_of_ble_eq_true rfl) ⟨(Nat.le_of_ble_eq_true rfl), (Nat.le_of_ble_eq_true rfl)⟩ rfl (fun u16 h => ?_)
    refine a_aload_n C dX11_setOpen_19 rfl 0 rfl rfl ?_
    refine g_11_8 C hE dX11_setOpen_20 ho kw_5_230 rfl ?_
    have k20 : ms_is E (ms_at E o 8) 13 := ms_wt hE ho rfl (by decide)
    have n20 : ms_N E (ms_at E o 8) = 1613 := ms_wl hE ho (by decide) (by decide) rfl
    refine a_iload_n C dX11_setOpen_23 rfl 1 rfl rfl ?_
    refine a_callSI C (c_X11_street l G cy L E hE u16 a1  _ h) kw_6_152 kw_6_153 kw_1_12 kw_6_154 rfl rfl pd_X11_street ⟨(Nat.le_of_ble_eq_true rfl), (Nat.le_of_ble_eq_true rfl)⟩ dX11_setOpen_24 rfl (Nat.le_of_ble_eq_true rfl) ⟨(Nat.le_of_ble_eq_true rfl), (Nat.le_of_ble_eq_true rfl)⟩ rfl (fun r24 u24 h => ?_)
    refine a_iconst (v := 3) C dX11_setOpen_27 (by decide) rfl ?_
    refine a_iadd C dX11_setOpen_28 rfl ?_
    obtain ⟨q29, h⟩ := h
    refine a_iald C dX11_setOpen_29 k20 n20 q29 rfl ?_
    refine a_if_ne (tgt := 37) C dX11_setOpen_30 (by decide) rfl (fun hc => ?_) (fun hc => ?_)
    · replace h := h.2 hc
      refine a_iconst (v := 0) C dX11_setOpen_37 (by decide) rfl ?_
      exact c_X11_setOpen_38 C hr hlocks hE ho  u24 0  h
    · replace h := h.1 hc
      refine a_iconst (v := 1) C dX11_setOpen_33 (by decide) rfl ?_
      refine a_goto (tgt := 38) C dX11_setOpen_34 (by decide) ?_
      exact c_X11_setOpen_38 C hr hlocks hE ho  u24 1  h
  · replace h := h.2 hc
    refine a_iconst (v := 0) C dX11_setOpen_13 (by decide) rfl ?_
    exact a_zret C dX11_setOpen_14 hr hlocks (Nat.le_of_ble_eq_true rfl) (Nat.le_of_ble_eq_true rfl) rfl h

/-! CensusWalkModel.undo()I -/
theorem pd_X11_undo : (⟨"CensusWalkModel", "undo", "()I"⟩ : MethodName).cls = "CensusWalkModel" ∧ (⟨"CensusWalkModel", "undo", "()I"⟩ : MethodName).cls ≠ "java/lang/invoke/MethodHandle" ∧ (⟨"CensusWalkModel", "undo", "()I"⟩ : MethodName).cls ≠ "java/lang/invoke/VarHandle" ∧ (parseMethodDescriptor (⟨"CensusWalkModel", "undo", "()I"⟩ : MethodName).desc).map (fun d => d.parameters.length) = some 0 := by decide +kernel
def wp_X11_undo (E : ms_En) (u : ms_St) (o : Nat) (post : Int32 → ms_St → Prop) : Prop := ((ms_I (ms_sI u o 0 0) o 11) = 0 → post (-1) (ms_sI u o 0 0)) ∧ (¬ (ms_I (ms_sI u o 0 0) o 11) = 0 → vp_in (ms_I (ms_sI (ms_sI u o 0 0) o 11 ((ms_I (ms_sI u o 0 0) o 11) - 1)) o 11) 8 ∧ (wp_X11_copy E (ms_sI (ms_sI u o 0 0) o 11 ((ms_I (ms_sI u o 0 0) o 11) - 1)) (ms_at E (ms_at E o 10) (Int32.toNatClampNeg (ms_I (ms_sI (ms_sI u o 0 0) o 11 ((ms_I (ms_sI u o 0 0) o 11) - 1)) o 11))) (ms_at E o 8) (fun u37 => post (ms_I u37 o 11) u37)))
set_option maxHeartbeats 4000000 in
set_option maxRecDepth 100000 in
theorem c_X11_undo (l : Launch) (G : va_G) (cy : Nat → ClassId) (L : Nat → Nat) (E : ms_En) (hE : ms_WT E) (u : ms_St) (o : Nat) (ho : ms_is E o 11) (post : Int32 → ms_St → Prop) (h : wp_X11_undo E u o post) : ms_MetI l ⟨"CensusWalkModel", "undo", "()I"⟩ (Cond.code ⟨"CensusWalkModel", "undo", "()I"⟩ prog_13_method_92_code 1 (some .int) :: lw_g) ({ frames := 1, cells := 0, slots := 0, locals := 22 } : Room) G cy L E [.ref (L o)] u post 0 0 := by
  refine ms_enterI (lv := [(0, .ref (L o))]) (by decide) (Nat.le_of_ble_eq_true rfl) rfl ?_
  intro p e s m args below meth c A C hr hlocks
  unfold wp_X11_undo at h
  refine a_aload_n C dX11_undo_0 rfl 0 rfl rfl ?_
  refine a_iconst (v := 0) C dX11_undo_1 (by decide) rfl ?_
  refine s_11_0 C dX11_undo_2 ho kw_5_222 rfl ?_
  refine a_aload_n C dX11_undo_5 rfl 0 rfl rfl ?_
  refine g_11_11 C dX11_undo_6 ho kw_5_233 rfl ?_
  refine a_if_ne (tgt := 14) C dX11_undo_9 (by decide) rfl (fun hc => ?_) (fun hc => ?_)
  · replace h := h.2 hc
    refine a_aload_n C dX11_undo_14 rfl 0 rfl rfl ?_
    refine a_dup C dX11_undo_15 rfl rfl ?_
    refine g_11_11 C dX11_undo_16 ho kw_5_233 rfl ?_
    refine a_iconst (v := 1) C dX11_undo_19 (by decide) rfl ?_
    refine a_isub C dX11_undo_20 rfl ?_
    refine s_11_11 C dX11_undo_21 ho kw_5_233 rfl ?_
    refine a_aload_n C dX11_undo_24 rfl 0 rfl rfl ?_
    refine g_11_10 C hE dX11_undo_25 ho kw_5_232 rfl ?_
    have k25 : ms_is E (ms_at E o 10) 17 := ms_wt hE ho rfl (by decide)
    have n25 : ms_N E (ms_at E o 10) = 8 := ms_wl hE ho (by decide) (by decide) rfl
    refine a_aload_n C dX11_undo_28 rfl 0 rfl rfl ?_
    refine g_11_11 C dX11_undo_29 ho kw_5_233 rfl ?_
    obtain ⟨q32, h⟩ := h
    refine a_aldI C dX11_undo_32 k25 (by decide) n25 q32 (hE.2.2 _ _ _ k25 (by decide) (by decide) (ms_in n25 q32)).1 rfl ?_
    have k32 : ms_is E (ms_at E (ms_at E o 10) (Int32.toNatClampNeg (ms_I (ms_sI (ms_sI u o 0 0) o 11 ((ms_I (ms_sI u o 0 0) o 11) - 1)) o 11))) 13 := (hE.2.2 _ _ _ k25 (by decide) (by decide) (ms_in n25 q32)).2.1
    have n32 : ms_N E (ms_at E (ms_at E o 10) (Int32.toNatClampNeg (ms_I (ms_sI (ms_sI u o 0 0) o 11 ((ms_I (ms_sI u o 0 0) o 11) - 1)) o 11))) = 1613 := (hE.2.2 _ _ _ k25 (by decide) (by decide) (ms_in n25 q32)).2.2
    refine a_aload_n C dX11_undo_33 rfl 0 rfl rfl ?_
    refine g_11_8 C hE dX11_undo_34 ho kw_5_230 rfl ?_
    have k34 : ms_is E (ms_at E o 8) 13 := ms_wt hE ho rfl (by decide)
    have n34 : ms_N E (ms_at E o 8) = 1613 := ms_wl hE ho (by decide) (by decide) rfl
    refine a_callSV C (c_X11_copy l G cy L E hE (ms_sI (ms_sI u o 0 0) o 11 ((ms_I (ms_sI u o 0 0) o 11) - 1)) (ms_at E (ms_at E o 10) (Int32.toNatClampNeg (ms_I (ms_sI (ms_sI u o 0 0) o 11 ((ms_I (ms_sI u o 0 0) o 11) - 1)) o 11))) (ms_at E o 8) k32 k34 _ h) kw_6_201 kw_6_202 kw_1_12 kw_6_203 rfl rfl pd_X11_copy ⟨(Nat.le_of_ble_eq_true rfl), (Nat.le_of_ble_eq_true rfl)⟩ dX11_undo_37 rfl (Nat.le_of_ble_eq_true rfl) ⟨(Nat.le_of_ble_eq_true rfl), (Nat.le_of_ble_eq_true rfl)⟩ rfl (fun u37 h => ?_)
    refine a_aload_n C dX11_undo_40 rfl 0 rfl rfl ?_
    refine g_11_11 C dX11_undo_41 ho kw_5_233 rfl ?_
    exact a_iret C dX11_undo_44 hr hlocks (Nat.le_of_ble_eq_true rfl) (Nat.le_of_ble_eq_true rfl) h
  · replace h := h.1 hc
    refine a_iconst (v := (-1)) C dX11_undo_12 (by decide) rfl ?_
    exact a_iret C dX11_undo_13 hr hlocks (Nat.le_of_ble_eq_true rfl) (Nat.le_of_ble_eq_true rfl) h

/-! CensusWalkModel.checksum()J -/
theorem pd_X11_checksum : (⟨"CensusWalkModel", "checksum", "()J"⟩ : MethodName).cls = "CensusWalkModel" ∧ (⟨"CensusWalkModel", "checksum", "()J"⟩ : MethodName).cls ≠ "java/lang/invoke/MethodHandle" ∧ (⟨"CensusWalkModel", "checksum", "()J"⟩ : MethodName).cls ≠ "java/lang/invoke/VarHandle" ∧ (parseMethodDescriptor (⟨"CensusWalkModel", "checksum", "()J"⟩ : MethodName).desc).map (fun d => d.parameters.length) = some 0 := by decide +kernel
def wp_X11_checksum_183 (E : ms_En) (o : Nat) (post : Int64 → ms_St → Prop)  : Nat → ms_St → Int64 → Int32 → Prop
  | 0 => fun _ _ _ => False
  | n + 1 => fun u y1 x3 => vp_in 1 1613 ∧ (((ms_I u (ms_at E o 8) (Int32.toNatClampNeg 1)) ≤ x3 → post ((31 * y1) + (Int32.toInt64 (ms_I u o 24))) u) ∧ (¬ (ms_I u (ms_at E o 8) (Int32.toNatClampNeg 1)) ≤ x3 → wp_X11_street E u x3 (fun r205 u205 => vp_in (r205 + 3) 1613 ∧ (∀ v213 : Int64, v213 = (((31 * y1) + 1) - (Int32.toInt64 (ms_I u205 (ms_at E o 8) (Int32.toNatClampNeg (r205 + 3))))) → (wp_X11_checksum_183 E o post n u205 v213 (x3 + 1))))))
set_option maxHeartbeats 4000000 in
set_option maxRecDepth 100000 in
theorem c_X11_checksum_183 {p : Program} {l : Launch} {e : Env} {s : State} {m : MethodId} {args : Array Value} {below : List Frame} {meth : Method} {c : Code} {G : va_G} {cy : Nat → ClassId} {A : Nat → Prop} {L : Nat → Nat} {E : ms_En} (C : ms_Cx p m c cX11_checksum 5 s args (Cond.code ⟨"CensusWalkModel", "checksum", "()J"⟩ prog_13_method_93_code 5 (some .long)) "CensusWalkModel" G cy A) (hr : meth.sig.returnType = (some .long)) (hlocks : meth.locks = false) (hE : ms_WT E) {o : Nat} {post : Int64 → ms_St → Prop}  (ho : ms_is E o 11)  : ∀ (n : Nat) (u : ms_St) (y1 : Int64) (x3 : Int32), wp_X11_checksum_183 E o post n u y1 x3 → ms_At p l e ({ frames := 9, cells := 0, slots := 0, locals := 199 } : Room) s m args below meth c 5 G cy A L 0 0 (ms_QL below args s G cy L E A post 0 0) E u 183 [(0, .ref (L o)), (1, .long y1), (3, .int x3)] [] := by
  intro n
  induction n with
  | zero =>
    intro u y1 x3  h
    exact absurd h id
  | succ n ih =>
    intro u y1 x3  h
    unfold wp_X11_checksum_183 at h
    refine a_iload_n C dX11_checksum_183 rfl 2 rfl rfl ?_
    refine a_aload_n C dX11_checksum_184 rfl 0 rfl rfl ?_
    refine g_11_8 C hE dX11_checksum_185 ho kw_5_230 rfl ?_
    have k185 : ms_is E (ms_at E o 8) 13 := ms_wt hE ho rfl (by decide)
    have n185 : ms_N E (ms_at E o 8) = 1613 := ms_wl hE ho (by decide) (by decide) rfl
    refine a_iconst (v := 1) C dX11_checksum_188 (by decide) rfl ?_
    obtain ⟨q189, h⟩ := h
    refine a_iald C dX11_checksum_189 k185 n185 q189 rfl ?_
    refine a_icmp_ge (tgt := 220) C dX11_checksum_190 (by decide) rfl (fun hc => ?_) (fun hc => ?_)
    · replace h := h.1 hc
      refine a_ldc2 (v := 31) C dX11_checksum_220 kw_7_219 rfl ?_
      refine a_lload_n C dX11_checksum_223 rfl 1 rfl rfl ?_
      refine a_lmul C dX11_checksum_224 rfl ?_
      refine a_aload_n C dX11_checksum_225 rfl 0 rfl rfl ?_
      refine g_11_24 C dX11_checksum_226 ho kw_6_6 rfl ?_
      refine a_i2l C dX11_checksum_229 rfl ?_
      refine a_ladd C dX11_checksum_230 rfl ?_
      exact a_lret C dX11_checksum_231 hr hlocks (Nat.le_of_ble_eq_true rfl) (Nat.le_of_ble_eq_true rfl) h
    · replace h := h.2 hc
      refine a_ldc2 (v := 31) C dX11_checksum_193 kw_7_219 rfl ?_
      refine a_lload_n C dX11_checksum_196 rfl 1 rfl rfl ?_
      refine a_lmul C dX11_checksum_197 rfl ?_
      refine a_lconst (v := 1) C dX11_checksum_198 (by decide) rfl ?_
      refine a_ladd C dX11_checksum_199 rfl ?_
      refine a_aload_n C dX11_checksum_200 rfl 0 rfl rfl ?_
      refine g_11_8 C hE dX11_checksum_201 ho kw_5_230 rfl ?_
      refine a_iload_n C dX11_checksum_204 rfl 2 rfl rfl ?_
      refine a_callSI C (c_X11_street l G cy L E hE u x3  _ h) kw_6_152 kw_6_153 kw_1_12 kw_6_154 rfl rfl pd_X11_street ⟨(Nat.le_of_ble_eq_true rfl), (Nat.le_of_ble_eq_true rfl)⟩ dX11_checksum_205 rfl (Nat.le_of_ble_eq_true rfl) ⟨(Nat.le_of_ble_eq_true rfl), (Nat.le_of_ble_eq_true rfl)⟩ rfl (fun r205 u205 h => ?_)
      refine a_iconst (v := 3) C dX11_checksum_208 (by decide) rfl ?_
      refine a_iadd C dX11_checksum_209 rfl ?_
      obtain ⟨q210, h⟩ := h
      refine a_iald C dX11_checksum_210 k185 n185 q210 rfl ?_
      refine a_i2l C dX11_checksum_211 rfl ?_
      refine a_lsub C dX11_checksum_212 rfl ?_
      refine a_nmL (fun v213 e213 => ?_)
      replace h := h v213 e213
      refine a_lstore_n (lv' := [(0, .ref (L o)), (1, .long v213), (3, .int x3)]) C dX11_checksum_213 rfl (by decide) [1, 0, 2] rfl rfl ?_
      refine a_iinc (lv' := [(0, .ref (L o)), (1, .long v213), (3, .int (x3 + 1))]) (v := (x3 + 1)) C dX11_checksum_214 2 rfl (congrArg (fun z => x3 + z) (by decide)) (by decide) [1, 2, 0] rfl rfl ?_
      refine a_goto (tgt := 183) C dX11_checksum_217 (by decide) ?_
      exact ih u205 v213 (x3 + 1)  h
def wp_X11_checksum_131 (E : ms_En) (o : Nat) (post : Int64 → ms_St → Prop)  : Nat → ms_St → Int64 → Int32 → Prop
  | 0 => fun _ _ _ => False
  | n + 1 => fun u y1 x3 => vp_in 2 1613 ∧ (((ms_I u (ms_at E o 8) (Int32.toNatClampNeg 2)) ≤ x3 → ∃ n183, wp_X11_checksum_183 E o post n183 u y1 0) ∧ (¬ (ms_I u (ms_at E o 8) (Int32.toNatClampNeg 2)) ≤ x3 → vp_in x3 16 ∧ (∀ v154 : Int64, v154 = ((31 * y1) + (Int32.toInt64 (ms_I u (ms_at E o 22) (Int32.toNatClampNeg x3)))) → (wp_X11_house E u x3 (fun r165 u165 => vp_in (r165 + 6) 1613 ∧ (∀ v174 : Int64, v174 = ((31 * v154) + (Int32.toInt64 (ms_I u165 (ms_at E o 8) (Int32.toNatClampNeg (r165 + 6))))) → (wp_X11_checksum_131 E o post n u165 v174 (x3 + 1))))))))
set_option maxHeartbeats 4000000 in
set_option maxRecDepth 100000 in
theorem c_X11_checksum_131 {p : Program} {l : Launch} {e : Env} {s : State} {m : MethodId} {args : Array Value} {below : List Frame} {meth : Method} {c : Code} {G : va_G} {cy : Nat → ClassId} {A : Nat → Prop} {L : Nat → Nat} {E : ms_En} (C : ms_Cx p m c cX11_checksum 5 s args (Cond.code ⟨"CensusWalkModel", "checksum", "()J"⟩ prog_13_method_93_code 5 (some .long)) "CensusWalkModel" G cy A) (hr : meth.sig.returnType = (some .long)) (hlocks : meth.locks = false) (hE : ms_WT E) {o : Nat} {post : Int64 → ms_St → Prop}  (ho : ms_is E o 11)  : ∀ (n : Nat) (u : ms_St) (y1 : Int64) (x3 : Int32), wp_X11_checksum_131 E o post n u y1 x3 → ms_At p l e ({ frames := 9, cells := 0, slots := 0, locals := 199 } : Room) s m args below meth c 5 G cy A L 0 0 (ms_QL below args s G cy L E A post 0 0) E u 131 [(0, .ref (L o)), (1, .long y1), (3, .int x3)] [] := by
  intro n
  induction n with
  | zero =>
    intro u y1 x3  h
    exact absurd h id
  | succ n ih =>
    intro u y1 x3  h
    unfold wp_X11_checksum_131 at h
    refine a_iload_n C dX11_checksum_131 rfl 2 rfl rfl ?_
    refine a_aload_n C dX11_checksum_132 rfl 0 rfl rfl ?_
    refine g_11_8 C hE dX11_checksum_133 ho kw_5_230 rfl ?_
    have k133 : ms_is E (ms_at E o 8) 13 := ms_wt hE ho rfl (by decide)
    have n133 : ms_N E (ms_at E o 8) = 1613 := ms_wl hE ho (by decide) (by decide) rfl
    refine a_iconst (v := 2) C dX11_checksum_136 (by decide) rfl ?_
    obtain ⟨q137, h⟩ := h
    refine a_iald C dX11_checksum_137 k133 n133 q137 rfl ?_
    refine a_icmp_ge (tgt := 181) C dX11_checksum_138 (by decide) rfl (fun hc => ?_) (fun hc => ?_)
    · replace h := h.1 hc
      refine a_iconst (v := 0) C dX11_checksum_181 (by decide) rfl ?_
      refine a_istore_n (lv' := [(0, .ref (L o)), (1, .long y1), (3, .int 0)]) C dX11_checksum_182 rfl (by decide) [1, 2, 0] rfl rfl ?_
      obtain ⟨n9, h⟩ := h
      exact c_X11_checksum_183 C hr hlocks hE ho  n9 u y1 0  h
    · replace h := h.2 hc
      refine a_ldc2 (v := 31) C dX11_checksum_141 kw_7_219 rfl ?_
      refine a_lload_n C dX11_checksum_144 rfl 1 rfl rfl ?_
      refine a_lmul C dX11_checksum_145 rfl ?_
      refine a_aload_n C dX11_checksum_146 rfl 0 rfl rfl ?_
      refine g_11_22 C hE dX11_checksum_147 ho kw_6_4 rfl ?_
      have k147 : ms_is E (ms_at E o 22) 13 := ms_wt hE ho rfl (by decide)
      have n147 : ms_N E (ms_at E o 22) = 16 := ms_wl hE ho (by decide) (by decide) rfl
      refine a_iload_n C dX11_checksum_150 rfl 2 rfl rfl ?_
      obtain ⟨q151, h⟩ := h
      refine a_iald C dX11_checksum_151 k147 n147 q151 rfl ?_
      refine a_i2l C dX11_checksum_152 rfl ?_
      refine a_ladd C dX11_checksum_153 rfl ?_
      refine a_nmL (fun v154 e154 => ?_)
      replace h := h v154 e154
      refine a_lstore_n (lv' := [(0, .ref (L o)), (1, .long v154), (3, .int x3)]) C dX11_checksum_154 rfl (by decide) [1, 0, 2] rfl rfl ?_
      refine a_ldc2 (v := 31) C dX11_checksum_155 kw_7_219 rfl ?_
      refine a_lload_n C dX11_checksum_158 rfl 1 rfl rfl ?_
      refine a_lmul C dX11_checksum_159 rfl ?_
      refine a_aload_n C dX11_checksum_160 rfl 0 rfl rfl ?_
      refine g_11_8 C hE dX11_checksum_161 ho kw_5_230 rfl ?_
      refine a_iload_n C dX11_checksum_164 rfl 2 rfl rfl ?_
      refine a_callSI C (c_X11_house l G cy L E hE u x3  _ h) kw_6_160 kw_6_161 kw_1_12 kw_6_162 rfl rfl pd_X11_house ⟨(Nat.le_of_ble_eq_true rfl), (Nat.le_of_ble_eq_true rfl)⟩ dX11_checksum_165 rfl (Nat.le_of_ble_eq_true rfl) ⟨(Nat.le_of_ble_eq_true rfl), (Nat.le_of_ble_eq_true rfl)⟩ rfl (fun r165 u165 h => ?_)
      refine a_bipush (v := 6) C dX11_checksum_168 (by decide) rfl ?_
      refine a_iadd C dX11_checksum_170 rfl ?_
      obtain ⟨q171, h⟩ := h
      refine a_iald C dX11_checksum_171 k133 n133 q171 rfl ?_
      refine a_i2l C dX11_checksum_172 rfl ?_
      refine a_ladd C dX11_checksum_173 rfl ?_
      refine a_nmL (fun v174 e174 => ?_)
      replace h := h v174 e174
      refine a_lstore_n (lv' := [(0, .ref (L o)), (1, .long v174), (3, .int x3)]) C dX11_checksum_174 rfl (by decide) [1, 0, 2] rfl rfl ?_
      refine a_iinc (lv' := [(0, .ref (L o)), (1, .long v174), (3, .int (x3 + 1))]) (v := (x3 + 1)) C dX11_checksum_175 2 rfl (congrArg (fun z => x3 + z) (by decide)) (by decide) [1, 2, 0] rfl rfl ?_
      refine a_goto (tgt := 131) C dX11_checksum_178 (by decide) ?_
      exact ih u165 v174 (x3 + 1)  h
def wp_X11_checksum_59 (E : ms_En) (o : Nat) (post : Int64 → ms_St → Prop) (k13 : ms_St → Int64 → Int32 → Prop) : Nat → ms_St → Int64 → Int32 → Int32 → Prop
  | 0 => fun _ _ _ _ => False
  | n + 1 => fun u y1 x3 x4 => wp_X11_walker E u x3 (fun r66 u66 => vp_in (r66 + 2) 1613 ∧ (((ms_I u66 (ms_at E o 8) (Int32.toNatClampNeg (r66 + 2))) ≤ x4 → k13 u66 y1 (x3 + 1)) ∧ (¬ (ms_I u66 (ms_at E o 8) (Int32.toNatClampNeg (r66 + 2))) ≤ x4 → wp_X11_walker E u66 x3 (fun r85 u85 => vp_in ((r85 + 3) + x4) 1613 ∧ (∀ v96 : Int64, v96 = ((31 * y1) + (Int32.toInt64 (ms_I u85 (ms_at E o 8) (Int32.toNatClampNeg ((r85 + 3) + x4))))) → (vp_in ((12 * x3) + x4) 36 ∧ (∀ v116 : Int64, v116 = ((31 * v96) + (Int32.toInt64 (ms_I u85 (ms_at E o 20) (Int32.toNatClampNeg ((12 * x3) + x4))))) → (wp_X11_checksum_59 E o post k13 n u85 v116 x3 (x4 + 1)))))))))
set_option maxHeartbeats 4000000 in
set_option maxRecDepth 100000 in
theorem c_X11_checksum_59 {p : Program} {l : Launch} {e : Env} {s : State} {m : MethodId} {args : Array Value} {below : List Frame} {meth : Method} {c : Code} {G : va_G} {cy : Nat → ClassId} {A : Nat → Prop} {L : Nat → Nat} {E : ms_En} (C : ms_Cx p m c cX11_checksum 5 s args (Cond.code ⟨"CensusWalkModel", "checksum", "()J"⟩ prog_13_method_93_code 5 (some .long)) "CensusWalkModel" G cy A) (hr : meth.sig.returnType = (some .long)) (hlocks : meth.locks = false) (hE : ms_WT E) {o : Nat} {post : Int64 → ms_St → Prop} {k13 : ms_St → Int64 → Int32 → Prop} (ho : ms_is E o 11) (hk13 : ∀ (u : ms_St) (y1 : Int64) (x3 : Int32), k13 u y1 x3 → ms_At p l e ({ frames := 9, cells := 0, slots := 0, locals := 199 } : Room) s m args below meth c 5 G cy A L 0 0 (ms_QL below args s G cy L E A post 0 0) E u 13 [(0, .ref (L o)), (1, .long y1), (3, .int x3)] []) : ∀ (n : Nat) (u : ms_St) (y1 : Int64) (x3 : Int32) (x4 : Int32), wp_X11_checksum_59 E o post k13 n u y1 x3 x4 → ms_At p l e ({ frames := 9, cells := 0, slots := 0, locals := 199 } : Room) s m args below meth c 5 G cy A L 0 0 (ms_QL below args s G cy L E A post 0 0) E u 59 [(0, .ref (L o)), (1, .long y1), (3, .int x3), (4, .int x4)] [] := by
  intro n
  induction n with
  | zero =>
    intro u y1 x3 x4  h
    exact absurd h id
  | succ n ih =>
    intro u y1 x3 x4  h
    unfold wp_X11_checksum_59 at h
    refine a_iload C dX11_checksum_59 3 rfl rfl ?_
    refine a_aload_n C dX11_checksum_61 rfl 0 rfl rfl ?_
    refine g_11_8 C hE dX11_checksum_62 ho kw_5_230 rfl ?_
    have k62 : ms_is E (ms_at E o 8) 13 := ms_wt hE ho rfl (by decide)
    have n62 : ms_N E (ms_at E o 8) = 1613 := ms_wl hE ho (by decide) (by decide) rfl
    refine a_iload_n C dX11_checksum_65 rfl 2 rfl rfl ?_
    refine a_callSI C (c_X11_walker l G cy L E hE u x3  _ h) kw_6_169 kw_6_170 kw_1_12 kw_6_171 rfl rfl pd_X11_walker ⟨(Nat.le_of_ble_eq_true rfl), (Nat.le_of_ble_eq_true rfl)⟩ dX11_checksum_66 rfl (Nat.le_of_ble_eq_true rfl) ⟨(Nat.le_of_ble_eq_true rfl), (Nat.le_of_ble_eq_true rfl)⟩ rfl (fun r66 u66 h => ?_)
    refine a_iconst (v := 2) C dX11_checksum_69 (by decide) rfl ?_
    refine a_iadd C dX11_checksum_70 rfl ?_
    obtain ⟨q71, h⟩ := h
    refine a_iald C dX11_checksum_71 k62 n62 q71 rfl ?_
    refine a_icmp_ge (tgt := 123) C dX11_checksum_72 (by decide) rfl (fun hc => ?_) (fun hc => ?_)
    · replace h := h.1 hc
      refine a_iinc (lv' := [(0, .ref (L o)), (1, .long y1), (3, .int (x3 + 1)), (4, .int x4)]) (v := (x3 + 1)) C dX11_checksum_123 2 rfl (congrArg (fun z => x3 + z) (by decide)) (by decide) [1, 2, 0, 3] rfl rfl ?_
      refine a_goto (tgt := 13) C dX11_checksum_126 (by decide) ?_
      refine a_sub (lv' := [(0, .ref (L o)), (1, .long y1), (3, .int (x3 + 1))]) [0, 1, 2] rfl ?_
      exact hk13 u66 y1 (x3 + 1)  h
    · replace h := h.2 hc
      refine a_ldc2 (v := 31) C dX11_checksum_75 kw_7_219 rfl ?_
      refine a_lload_n C dX11_checksum_78 rfl 1 rfl rfl ?_
      refine a_lmul C dX11_checksum_79 rfl ?_
      refine a_aload_n C dX11_checksum_80 rfl 0 rfl rfl ?_
      refine g_11_8 C hE dX11_checksum_81 ho kw_5_230 rfl ?_
      refine a_iload_n C dX11_checksum_84 rfl 2 rfl rfl ?_
      refine a_callSI C (c_X11_walker l G cy L E hE u66 x3  _ h) kw_6_169 kw_6_170 kw_1_12 kw_6_171 rfl rfl pd_X11_walker ⟨(Nat.le_of_ble_eq_true rfl), (Nat.le_of_ble_eq_true rfl)⟩ dX11_checksum_85 rfl (Nat.le_of_ble_eq_true rfl) ⟨(Nat.le_of_ble_eq_true rfl), (Nat.le_of_ble_eq_true rfl)⟩ rfl (fun r85 u85 h => ?_)
      refine a_iconst (v := 3) C dX11_checksum_88 (by decide) rfl ?_
      refine a_iadd C dX11_checksum_89 rfl ?_
      refine a_iload C dX11_checksum_90 3 rfl rfl ?_
      refine a_iadd C dX11_checksum_92 rfl ?_
      obtain ⟨q93, h⟩ := h
      refine a_iald C dX11_checksum_93 k62 n62 q93 rfl ?_
      refine a_i2l C dX11_checksum_94 rfl ?_
      refine a_ladd C dX11_checksum_95 rfl ?_
      refine a_nmL (fun v96 e96 => ?_)
      replace h := h v96 e96
      refine a_lstore_n (lv' := [(0, .ref (L o)), (1, .long v96), (3, .int x3), (4, .int x4)]) C dX11_checksum_96 rfl (by decide) [1, 0, 2, 3] rfl rfl ?_
      refine a_ldc2 (v := 31) C dX11_checksum_97 kw_7_219 rfl ?_
      refine a_lload_n C dX11_checksum_100 rfl 1 rfl rfl ?_
      refine a_lmul C dX11_checksum_101 rfl ?_
      refine a_aload_n C dX11_checksum_102 rfl 0 rfl rfl ?_
      refine g_11_20 C hE dX11_checksum_103 ho kw_6_2 rfl ?_
      have k103 : ms_is E (ms_at E o 20) 13 := ms_wt hE ho rfl (by decide)
      have n103 : ms_N E (ms_at E o 20) = 36 := ms_wl hE ho (by decide) (by decide) rfl
      refine a_bipush (v := 12) C dX11_checksum_106 (by decide) rfl ?_
      refine a_iload_n C dX11_checksum_108 rfl 2 rfl rfl ?_
      refine a_imul C dX11_checksum_109 rfl ?_
      refine a_iload C dX11_checksum_110 3 rfl rfl ?_
      refine a_iadd C dX11_checksum_112 rfl ?_
      obtain ⟨q113, h⟩ := h
      refine a_iald C dX11_checksum_113 k103 n103 q113 rfl ?_
      refine a_i2l C dX11_checksum_114 rfl ?_
      refine a_ladd C dX11_checksum_115 rfl ?_
      refine a_nmL (fun v116 e116 => ?_)
      replace h := h v116 e116
      refine a_lstore_n (lv' := [(0, .ref (L o)), (1, .long v116), (3, .int x3), (4, .int x4)]) C dX11_checksum_116 rfl (by decide) [1, 0, 2, 3] rfl rfl ?_
      refine a_iinc (lv' := [(0, .ref (L o)), (1, .long v116), (3, .int x3), (4, .int (x4 + 1))]) (v := (x4 + 1)) C dX11_checksum_117 3 rfl (congrArg (fun z => x4 + z) (by decide)) (by decide) [1, 2, 3, 0] rfl rfl ?_
      refine a_goto (tgt := 59) C dX11_checksum_120 (by decide) ?_
      exact ih u85 v116 x3 (x4 + 1)  h
def wp_X11_checksum_13 (E : ms_En) (o : Nat) (post : Int64 → ms_St → Prop)  : Nat → ms_St → Int64 → Int32 → Prop
  | 0 => fun _ _ _ => False
  | n + 1 => fun u y1 x3 => vp_in 3 1613 ∧ (((ms_I u (ms_at E o 8) (Int32.toNatClampNeg 3)) ≤ x3 → ∃ n131, wp_X11_checksum_131 E o post n131 u y1 0) ∧ (¬ (ms_I u (ms_at E o 8) (Int32.toNatClampNeg 3)) ≤ x3 → wp_X11_walker E u x3 (fun r33 u33 => vp_in (r33 + 2) 1613 ∧ (∀ v41 : Int64, v41 = ((31 * y1) + (Int32.toInt64 (ms_I u33 (ms_at E o 8) (Int32.toNatClampNeg (r33 + 2))))) → (vp_in x3 3 ∧ (∀ v55 : Int64, v55 = ((31 * v41) + (Int32.toInt64 (ms_I u33 (ms_at E o 17) (Int32.toNatClampNeg x3)))) → (∃ n59, wp_X11_checksum_59 E o post (wp_X11_checksum_13 E o post n) n59 u33 v55 x3 0)))))))
set_option maxHeartbeats 4000000 in
set_option maxRecDepth 100000 in
theorem c_X11_checksum_13 {p : Program} {l : Launch} {e : Env} {s : State} {m : MethodId} {args : Array Value} {below : List Frame} {meth : Method} {c : Code} {G : va_G} {cy : Nat → ClassId} {A : Nat → Prop} {L : Nat → Nat} {E : ms_En} (C : ms_Cx p m c cX11_checksum 5 s args (Cond.code ⟨"CensusWalkModel", "checksum", "()J"⟩ prog_13_method_93_code 5 (some .long)) "CensusWalkModel" G cy A) (hr : meth.sig.returnType = (some .long)) (hlocks : meth.locks = false) (hE : ms_WT E) {o : Nat} {post : Int64 → ms_St → Prop}  (ho : ms_is E o 11)  : ∀ (n : Nat) (u : ms_St) (y1 : Int64) (x3 : Int32), wp_X11_checksum_13 E o post n u y1 x3 → ms_At p l e ({ frames := 9, cells := 0, slots := 0, locals := 199 } : Room) s m args below meth c 5 G cy A L 0 0 (ms_QL below args s G cy L E A post 0 0) E u 13 [(0, .ref (L o)), (1, .long y1), (3, .int x3)] [] := by
  intro n
  induction n with
  | zero =>
    intro u y1 x3  h
    exact absurd h id
  | succ n ih =>
    intro u y1 x3  h
    unfold wp_X11_checksum_13 at h
    refine a_iload_n C dX11_checksum_13 rfl 2 rfl rfl ?_
    refine a_aload_n C dX11_checksum_14 rfl 0 rfl rfl ?_
    refine g_11_8 C hE dX11_checksum_15 ho kw_5_230 rfl ?_
    have k15 : ms_is E (ms_at E o 8) 13 := ms_wt hE ho rfl (by decide)
    have n15 : ms_N E (ms_at E o 8) = 1613 := ms_wl hE ho (by decide) (by decide) rfl
    refine a_iconst (v := 3) C dX11_checksum_18 (by decide) rfl ?_
    obtain ⟨q19, h⟩ := h
    refine a_iald C dX11_checksum_19 k15 n15 q19 rfl ?_
    refine a_icmp_ge (tgt := 129) C dX11_checksum_20 (by decide) rfl (fun hc => ?_) (fun hc => ?_)
    · replace h := h.1 hc
      refine a_iconst (v := 0) C dX11_checksum_129 (by decide) rfl ?_
      refine a_istore_n (lv' := [(0, .ref (L o)), (1, .long y1), (3, .int 0)]) C dX11_checksum_130 rfl (by decide) [1, 2, 0] rfl rfl ?_
      obtain ⟨n9, h⟩ := h
      exact c_X11_checksum_131 C hr hlocks hE ho  n9 u y1 0  h
    · replace h := h.2 hc
      refine a_ldc2 (v := 31) C dX11_checksum_23 kw_7_219 rfl ?_
      refine a_lload_n C dX11_checksum_26 rfl 1 rfl rfl ?_
      refine a_lmul C dX11_checksum_27 rfl ?_
      refine a_aload_n C dX11_checksum_28 rfl 0 rfl rfl ?_
      refine g_11_8 C hE dX11_checksum_29 ho kw_5_230 rfl ?_
      refine a_iload_n C dX11_checksum_32 rfl 2 rfl rfl ?_
      refine a_callSI C (c_X11_walker l G cy L E hE u x3  _ h) kw_6_169 kw_6_170 kw_1_12 kw_6_171 rfl rfl pd_X11_walker ⟨(Nat.le_of_ble_eq_true rfl), (Nat.le_of_ble_eq_true rfl)⟩ dX11_checksum_33 rfl (Nat.le_of_ble_eq_true rfl) ⟨(Nat.le_of_ble_eq_true rfl), (Nat.le_of_ble_eq_true rfl)⟩ rfl (fun r33 u33 h => ?_)
      refine a_iconst (v := 2) C dX11_checksum_36 (by decide) rfl ?_
      refine a_iadd C dX11_checksum_37 rfl ?_
      obtain ⟨q38, h⟩ := h
      refine a_iald C dX11_checksum_38 k15 n15 q38 rfl ?_
      refine a_i2l C dX11_checksum_39 rfl ?_
      refine a_ladd C dX11_checksum_40 rfl ?_
      refine a_nmL (fun v41 e41 => ?_)
      replace h := h v41 e41
      refine a_lstore_n (lv' := [(0, .ref (L o)), (1, .long v41), (3, .int x3)]) C dX11_checksum_41 rfl (by decide) [1, 0, 2] rfl rfl ?_
      refine a_ldc2 (v := 31) C dX11_checksum_42 kw_7_219 rfl ?_
      refine a_lload_n C dX11_checksum_45 rfl 1 rfl rfl ?_
      refine a_lmul C dX11_checksum_46 rfl ?_
      refine a_aload_n C dX11_checksum_47 rfl 0 rfl rfl ?_
      refine g_11_17 C hE dX11_checksum_48 ho kw_5_239 rfl ?_
      have k48 : ms_is E (ms_at E o 17) 13 := ms_wt hE ho rfl (by decide)
      have n48 : ms_N E (ms_at E o 17) = 3 := ms_wl hE ho (by decide) (by decide) rfl
      refine a_iload_n C dX11_checksum_51 rfl 2 rfl rfl ?_
      obtain ⟨q52, h⟩ := h
      refine a_iald C dX11_checksum_52 k48 n48 q52 rfl ?_
      refine a_i2l C dX11_checksum_53 rfl ?_
      refine a_ladd C dX11_checksum_54 rfl ?_
      refine a_nmL (fun v55 e55 => ?_)
      replace h := h v55 e55
      refine a_lstore_n (lv' := [(0, .ref (L o)), (1, .long v55), (3, .int x3)]) C dX11_checksum_55 rfl (by decide) [1, 0, 2] rfl rfl ?_
      refine a_iconst (v := 0) C dX11_checksum_56 (by decide) rfl ?_
      refine a_istore (lv' := [(0, .ref (L o)), (1, .long v55), (3, .int x3), (4, .int 0)]) C dX11_checksum_57 (by decide) [1, 2, 3, 0] rfl rfl ?_
      obtain ⟨n9, h⟩ := h
      exact c_X11_checksum_59 C hr hlocks hE ho ih n9 u33 v55 x3 0  h
def wp_X11_checksum (E : ms_En) (u : ms_St) (o : Nat) (post : Int64 → ms_St → Prop) : Prop := wp_X11_simulate E (ms_sI u o 0 0) o (fun u6 => ∃ n13, wp_X11_checksum_13 E o post n13 u6 0 0)
set_option maxHeartbeats 4000000 in
set_option maxRecDepth 100000 in
theorem c_X11_checksum (l : Launch) (G : va_G) (cy : Nat → ClassId) (L : Nat → Nat) (E : ms_En) (hE : ms_WT E) (u : ms_St) (o : Nat) (ho : ms_is E o 11) (post : Int64 → ms_St → Prop) (h : wp_X11_checksum E u o post) : ms_MetL l ⟨"CensusWalkModel", "checksum", "()J"⟩ (Cond.code ⟨"CensusWalkModel", "checksum", "()J"⟩ prog_13_method_93_code 5 (some .long) :: lw_g) ({ frames := 9, cells := 0, slots := 0, locals := 199 } : Room) G cy L E [.ref (L o)] u post 0 0 := by
  refine ms_enterL (lv := [(0, .ref (L o))]) (by decide) (Nat.le_of_ble_eq_true rfl) rfl ?_
  intro p e s m args below meth c A C hr hlocks
  unfold wp_X11_checksum at h
  refine a_aload_n C dX11_checksum_0 rfl 0 rfl rfl ?_
  refine a_iconst (v := 0) C dX11_checksum_1 (by decide) rfl ?_
  refine s_11_0 C dX11_checksum_2 ho kw_5_222 rfl ?_
  refine a_aload_n C dX11_checksum_5 rfl 0 rfl rfl ?_
  refine a_callVV C (c_X11_simulate l G cy L E hE (ms_sI u o 0 0) o ho _ h) ho rfl (by decide) kw_7_88 kw_7_90 kp_74 kw_1_12 kw_7_91 rfl rfl pd_X11_simulate ⟨(Nat.le_of_ble_eq_true rfl), (Nat.le_of_ble_eq_true rfl)⟩ dX11_checksum_6 rfl (Nat.le_of_ble_eq_true rfl) ⟨(Nat.le_of_ble_eq_true rfl), (Nat.le_of_ble_eq_true rfl)⟩ rfl (fun u6 h => ?_)
  refine a_lconst (v := 0) C dX11_checksum_9 (by decide) rfl ?_
  refine a_lstore_n (lv' := [(0, .ref (L o)), (1, .long 0)]) C dX11_checksum_10 rfl (by decide) [1, 0] rfl rfl ?_
  refine a_iconst (v := 0) C dX11_checksum_11 (by decide) rfl ?_
  refine a_istore_n (lv' := [(0, .ref (L o)), (1, .long 0), (3, .int 0)]) C dX11_checksum_12 rfl (by decide) [1, 2, 0] rfl rfl ?_
  obtain ⟨n9, h⟩ := h
  exact c_X11_checksum_13 C hr hlocks hE ho  n9 u6 0 0  h
