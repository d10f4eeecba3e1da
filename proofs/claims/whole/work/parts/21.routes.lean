/-! java/util/Arrays.fill([II)V -/
theorem pd_J7_fill_53178 : (⟨"java/util/Arrays", "fill", "([II)V"⟩ : MethodName).cls ≠ "java/lang/invoke/MethodHandle" ∧ (⟨"java/util/Arrays", "fill", "([II)V"⟩ : MethodName).cls ≠ "java/lang/invoke/VarHandle" ∧ (parseMethodDescriptor (⟨"java/util/Arrays", "fill", "([II)V"⟩ : MethodName).desc).map (fun d => d.parameters.length) = some 2 := by decide +kernel
def wp_J7_fill_53178_5 (E : ms_En) (a0 : Nat) (a1 : Int32) (post : ms_St → Prop)  : Nat → ms_St → Int32 → Int32 → Prop
  | 0 => fun _ _ _ => False
  | n + 1 => fun u x2 x3 => (x3 ≤ x2 → post u) ∧ (¬ x3 ≤ x2 → vp_in x2 (ms_N E a0) ∧ (wp_J7_fill_53178_5 E a0 a1 post n (ms_sI u a0 (Int32.toNatClampNeg x2) a1) (x2 + 1) x3))
set_option maxHeartbeats 4000000 in
set_option maxRecDepth 100000 in
theorem c_J7_fill_53178_5 {p : Program} {l : Launch} {e : Env} {s : State} {m : MethodId} {args : Array Value} {below : List Frame} {meth : Method} {c : Code} {G : va_G} {cy : Nat → ClassId} {A : Nat → Prop} {L : Nat → Nat} {E : ms_En} (C : ms_Cx p m c cJ7_fill_53178 4 s args (Cond.code ⟨"java/util/Arrays", "fill", "([II)V"⟩ prog_26_method_103_code 4 none) "java/util/Arrays" G cy A) (hr : meth.sig.returnType = none) (hlocks : meth.locks = false) (hE : ms_WT E) {a0 : Nat} {a1 : Int32} {post : ms_St → Prop}  (ha0 : ms_is E a0 13)  : ∀ (n : Nat) (u : ms_St) (x2 : Int32) (x3 : Int32), wp_J7_fill_53178_5 E a0 a1 post n u x2 x3 → ms_At p l e ({ frames := 0, cells := 0, slots := 0, locals := 0 } : Room) s m args below meth c 4 G cy A L 0 0 (ms_QV below args s G cy L E A post 0 0) E u 5 [(0, .ref (L a0)), (1, .int a1), (2, .int x2), (3, .int x3)] [] := by
  intro n
  induction n with
  | zero =>
    intro u x2 x3  h
    exact absurd h id
  | succ n ih =>
    intro u x2 x3  h
    unfold wp_J7_fill_53178_5 at h
    refine a_iload_n C dJ7_fill_53178_5 rfl 2 rfl rfl ?_
    refine a_iload_n C dJ7_fill_53178_6 rfl 3 rfl rfl ?_
    refine a_icmp_ge (tgt := 20) C dJ7_fill_53178_7 (by decide) rfl (fun hc => ?_) (fun hc => ?_)
    · replace h := h.1 hc
      exact a_vret C dJ7_fill_53178_20 hr hlocks (Nat.le_of_ble_eq_true rfl) (Nat.le_of_ble_eq_true rfl) h
    · replace h := h.2 hc
      refine a_aload_n C dJ7_fill_53178_10 rfl 0 rfl rfl ?_
      refine a_iload_n C dJ7_fill_53178_11 rfl 2 rfl rfl ?_
      refine a_iload_n C dJ7_fill_53178_12 rfl 1 rfl rfl ?_
      obtain ⟨q13, h⟩ := h
      refine a_iast C dJ7_fill_53178_13 ha0 rfl q13 rfl ?_
      refine a_iinc (lv' := [(0, .ref (L a0)), (1, .int a1), (2, .int (x2 + 1)), (3, .int x3)]) (v := (x2 + 1)) C dJ7_fill_53178_14 2 rfl (congrArg (fun z => x2 + z) (by decide)) (by decide) [1, 2, 0, 3] rfl rfl ?_
      refine a_goto (tgt := 5) C dJ7_fill_53178_17 (by decide) ?_
      exact ih (ms_sI u a0 (Int32.toNatClampNeg x2) a1) (x2 + 1) x3  h
def wp_J7_fill_53178 (E : ms_En) (u : ms_St) (a0 : Nat) (a1 : Int32) (post : ms_St → Prop) : Prop := ∀ v4 : Int32, v4 = (nI (ms_N E a0)) → (∃ n5, wp_J7_fill_53178_5 E a0 a1 post n5 u 0 v4)
set_option maxHeartbeats 4000000 in
set_option maxRecDepth 100000 in
theorem c_J7_fill_53178 (l : Launch) (G : va_G) (cy : Nat → ClassId) (L : Nat → Nat) (E : ms_En) (hE : ms_WT E) (u : ms_St) (a0 : Nat) (a1 : Int32) (ha0 : ms_is E a0 13) (post : ms_St → Prop) (h : wp_J7_fill_53178 E u a0 a1 post) : ms_MetV l ⟨"java/util/Arrays", "fill", "([II)V"⟩ (Cond.code ⟨"java/util/Arrays", "fill", "([II)V"⟩ prog_26_method_103_code 4 none :: lw_g) ({ frames := 0, cells := 0, slots := 0, locals := 0 } : Room) G cy L E [.ref (L a0), .int a1] u post 0 0 := by
  refine ms_enterV (lv := [(0, .ref (L a0)), (1, .int a1)]) (by decide) (Nat.le_of_ble_eq_true rfl) rfl ?_
  intro p e s m args below meth c A C hr hlocks
  unfold wp_J7_fill_53178 at h
  refine a_iconst (v := 0) C dJ7_fill_53178_0 (by decide) rfl ?_
  refine a_istore_n (lv' := [(0, .ref (L a0)), (1, .int a1), (2, .int 0)]) C dJ7_fill_53178_1 rfl (by decide) [1, 2, 0] rfl rfl ?_
  refine a_aload_n C dJ7_fill_53178_2 rfl 0 rfl rfl ?_
  refine a_alen13 C dJ7_fill_53178_3 ha0 rfl ?_
  refine a_nmI (fun v4 e4 => ?_)
  replace h := h v4 e4
  refine a_istore_n (lv' := [(0, .ref (L a0)), (1, .int a1), (2, .int 0), (3, .int v4)]) C dJ7_fill_53178_4 rfl (by decide) [1, 2, 3, 0] rfl rfl ?_
  obtain ⟨n9, h⟩ := h
  exact c_J7_fill_53178_5 C hr hlocks hE ha0  n9 u 0 v4  h

/-! java/lang/Integer.bitCount(I)I -/
theorem pd_J6_bitCount_0f7a4 : (⟨"java/lang/Integer", "bitCount", "(I)I"⟩ : MethodName).cls ≠ "java/lang/invoke/MethodHandle" ∧ (⟨"java/lang/Integer", "bitCount", "(I)I"⟩ : MethodName).cls ≠ "java/lang/invoke/VarHandle" ∧ (parseMethodDescriptor (⟨"java/lang/Integer", "bitCount", "(I)I"⟩ : MethodName).desc).map (fun d => d.parameters.length) = some 1 := by decide +kernel
def wp_J6_bitCount_0f7a4 (E : ms_En) (u : ms_St) (a0 : Int32) (post : Int32 → ms_St → Prop) : Prop := ∀ v9 : Int32, v9 = (a0 - (((Int32.toUInt32 a0 >>> (Int32.toUInt32 1 &&& Int32.toUInt32 31)).toInt32) &&& 1431655765)) → (∀ v23 : Int32, v23 = ((v9 &&& 858993459) + (((Int32.toUInt32 v9 >>> (Int32.toUInt32 2 &&& Int32.toUInt32 31)).toInt32) &&& 858993459)) → (∀ v33 : Int32, v33 = ((v23 + ((Int32.toUInt32 v23 >>> (Int32.toUInt32 4 &&& Int32.toUInt32 31)).toInt32)) &&& 252645135) → (∀ v40 : Int32, v40 = (v33 + ((Int32.toUInt32 v33 >>> (Int32.toUInt32 8 &&& Int32.toUInt32 31)).toInt32)) → (∀ v47 : Int32, v47 = (v40 + ((Int32.toUInt32 v40 >>> (Int32.toUInt32 16 &&& Int32.toUInt32 31)).toInt32)) → (post (v47 &&& 63) u)))))
set_option maxHeartbeats 4000000 in
set_option maxRecDepth 100000 in
theorem c_J6_bitCount_0f7a4 (l : Launch) (G : va_G) (cy : Nat → ClassId) (L : Nat → Nat) (E : ms_En) (hE : ms_WT E) (u : ms_St) (a0 : Int32)  (post : Int32 → ms_St → Prop) (h : wp_J6_bitCount_0f7a4 E u a0 post) : ms_MetI l ⟨"java/lang/Integer", "bitCount", "(I)I"⟩ (Cond.code ⟨"java/lang/Integer", "bitCount", "(I)I"⟩ prog_18_method_49_code 1 (some .int) :: lw_g) ({ frames := 0, cells := 0, slots := 0, locals := 0 } : Room) G cy L E [.int a0] u post 0 0 := by
  refine ms_enterI (lv := [(0, .int a0)]) (by decide) (Nat.le_of_ble_eq_true rfl) rfl ?_
  intro p e s m args below meth c A C hr hlocks
  unfold wp_J6_bitCount_0f7a4 at h
  refine a_iload_n C dJ6_bitCount_0f7a4_0 rfl 0 rfl rfl ?_
  refine a_iload_n C dJ6_bitCount_0f7a4_1 rfl 0 rfl rfl ?_
  refine a_iconst (v := 1) C dJ6_bitCount_0f7a4_2 (by decide) rfl ?_
  refine a_iushr C dJ6_bitCount_0f7a4_3 rfl ?_
  refine a_ldcw (v := 1431655765) C dJ6_bitCount_0f7a4_4 kw_5_55 rfl ?_
  refine a_iand C dJ6_bitCount_0f7a4_7 rfl ?_
  refine a_isub C dJ6_bitCount_0f7a4_8 rfl ?_
  refine a_nmI (fun v9 e9 => ?_)
  replace h := h v9 e9
  refine a_istore_n (lv' := [(0, .int v9)]) C dJ6_bitCount_0f7a4_9 rfl (by decide) [0] rfl rfl ?_
  refine a_iload_n C dJ6_bitCount_0f7a4_10 rfl 0 rfl rfl ?_
  refine a_ldcw (v := 858993459) C dJ6_bitCount_0f7a4_11 kw_5_56 rfl ?_
  refine a_iand C dJ6_bitCount_0f7a4_14 rfl ?_
  refine a_iload_n C dJ6_bitCount_0f7a4_15 rfl 0 rfl rfl ?_
  refine a_iconst (v := 2) C dJ6_bitCount_0f7a4_16 (by decide) rfl ?_
  refine a_iushr C dJ6_bitCount_0f7a4_17 rfl ?_
  refine a_ldcw (v := 858993459) C dJ6_bitCount_0f7a4_18 kw_5_56 rfl ?_
  refine a_iand C dJ6_bitCount_0f7a4_21 rfl ?_
  refine a_iadd C dJ6_bitCount_0f7a4_22 rfl ?_
  refine a_nmI (fun v23 e23 => ?_)
  replace h := h v23 e23
  refine a_istore_n (lv' := [(0, .int v23)]) C dJ6_bitCount_0f7a4_23 rfl (by decide) [0] rfl rfl ?_
  refine a_iload_n C dJ6_bitCount_0f7a4_24 rfl 0 rfl rfl ?_
  refine a_iload_n C dJ6_bitCount_0f7a4_25 rfl 0 rfl rfl ?_
  refine a_iconst (v := 4) C dJ6_bitCount_0f7a4_26 (by decide) rfl ?_
  refine a_iushr C dJ6_bitCount_0f7a4_27 rfl ?_
  refine a_iadd C dJ6_bitCount_0f7a4_28 rfl ?_
  refine a_ldcw (v := 252645135) C dJ6_bitCount_0f7a4_29 kw_5_57 rfl ?_
  refine a_iand C dJ6_bitCount_0f7a4_32 rfl ?_
  refine a_nmI (fun v33 e33 => ?_)
  replace h := h v33 e33
  refine a_istore_n (lv' := [(0, .int v33)]) C dJ6_bitCount_0f7a4_33 rfl (by decide) [0] rfl rfl ?_
  refine a_iload_n C dJ6_bitCount_0f7a4_34 rfl 0 rfl rfl ?_
  refine a_iload_n C dJ6_bitCount_0f7a4_35 rfl 0 rfl rfl ?_
  refine a_bipush (v := 8) C dJ6_bitCount_0f7a4_36 (by decide) rfl ?_
  refine a_iushr C dJ6_bitCount_0f7a4_38 rfl ?_
  refine a_iadd C dJ6_bitCount_0f7a4_39 rfl ?_
  refine a_nmI (fun v40 e40 => ?_)
  replace h := h v40 e40
  refine a_istore_n (lv' := [(0, .int v40)]) C dJ6_bitCount_0f7a4_40 rfl (by decide) [0] rfl rfl ?_
  refine a_iload_n C dJ6_bitCount_0f7a4_41 rfl 0 rfl rfl ?_
  refine a_iload_n C dJ6_bitCount_0f7a4_42 rfl 0 rfl rfl ?_
  refine a_bipush (v := 16) C dJ6_bitCount_0f7a4_43 (by decide) rfl ?_
  refine a_iushr C dJ6_bitCount_0f7a4_45 rfl ?_
  refine a_iadd C dJ6_bitCount_0f7a4_46 rfl ?_
  refine a_nmI (fun v47 e47 => ?_)
  replace h := h v47 e47
  refine a_istore_n (lv' := [(0, .int v47)]) C dJ6_bitCount_0f7a4_47 rfl (by decide) [0] rfl rfl ?_
  refine a_iload_n C dJ6_bitCount_0f7a4_48 rfl 0 rfl rfl ?_
  refine a_bipush (v := 63) C dJ6_bitCount_0f7a4_49 (by decide) rfl ?_
  refine a_iand C dJ6_bitCount_0f7a4_51 rfl ?_
  exact a_iret C dJ6_bitCount_0f7a4_52 hr hlocks (Nat.le_of_ble_eq_true rfl) (Nat.le_of_ble_eq_true rfl) h

/-! CensusWalk.contains(II)Z -/
theorem pd_X10_contains : (⟨"CensusWalk", "contains", "(II)Z"⟩ : MethodName).cls ≠ "java/lang/invoke/MethodHandle" ∧ (⟨"CensusWalk", "contains", "(II)Z"⟩ : MethodName).cls ≠ "java/lang/invoke/VarHandle" ∧ (parseMethodDescriptor (⟨"CensusWalk", "contains", "(II)Z"⟩ : MethodName).desc).map (fun d => d.parameters.length) = some 2 := by decide +kernel
def wp_X10_contains_13 (E : ms_En) (a0 : Int32) (a1 : Int32) (post : Int32 → ms_St → Prop)  (u : ms_St) (z0 : Int32) : Prop := (z0 = 0 ∨ z0 = 1) ∧ (post z0 u)
set_option maxHeartbeats 4000000 in
set_option maxRecDepth 100000 in
theorem c_X10_contains_13 {p : Program} {l : Launch} {e : Env} {s : State} {m : MethodId} {args : Array Value} {below : List Frame} {meth : Method} {c : Code} {G : va_G} {cy : Nat → ClassId} {A : Nat → Prop} {L : Nat → Nat} {E : ms_En} (C : ms_Cx p m c cX10_contains 2 s args (Cond.code ⟨"CensusWalk", "contains", "(II)Z"⟩ prog_1_method_46_code 2 (some .boolean)) "CensusWalk" G cy A) (hr : meth.sig.returnType = (some .boolean)) (hlocks : meth.locks = false) (hE : ms_WT E) {a0 : Int32} {a1 : Int32} {post : Int32 → ms_St → Prop}    (u : ms_St) (z0 : Int32)  (h : wp_X10_contains_13 E a0 a1 post u z0) : ms_At p l e ({ frames := 0, cells := 0, slots := 0, locals := 0 } : Room) s m args below meth c 2 G cy A L 0 0 (ms_QI below args s G cy L E A post 0 0) E u 13 [] [.int z0] := by
  unfold wp_X10_contains_13 at h
  obtain ⟨q13, h⟩ := h
  exact a_zret C dX10_contains_13 hr hlocks (Nat.le_of_ble_eq_true rfl) (Nat.le_of_ble_eq_true rfl) (ms_nz q13) h
def wp_X10_contains (E : ms_En) (u : ms_St) (a0 : Int32) (a1 : Int32) (post : Int32 → ms_St → Prop) : Prop := (((a0 >>> (a1 &&& 31)) &&& 1) = 0 → wp_X10_contains_13 E a0 a1 post u 0) ∧ (¬ ((a0 >>> (a1 &&& 31)) &&& 1) = 0 → wp_X10_contains_13 E a0 a1 post u 1)
set_option maxHeartbeats 4000000 in
set_option maxRecDepth 100000 in
theorem c_X10_contains (l : Launch) (G : va_G) (cy : Nat → ClassId) (L : Nat → Nat) (E : ms_En) (hE : ms_WT E) (u : ms_St) (a0 : Int32) (a1 : Int32)  (post : Int32 → ms_St → Prop) (h : wp_X10_contains E u a0 a1 post) : ms_MetI l ⟨"CensusWalk", "contains", "(II)Z"⟩ (Cond.code ⟨"CensusWalk", "contains", "(II)Z"⟩ prog_1_method_46_code 2 (some .boolean) :: lw_g) ({ frames := 0, cells := 0, slots := 0, locals := 0 } : Room) G cy L E [.int a0, .int a1] u post 0 0 := by
  refine ms_enterI (lv := [(0, .int a0), (1, .int a1)]) (by decide) (Nat.le_of_ble_eq_true rfl) rfl ?_
  intro p e s m args below meth c A C hr hlocks
  unfold wp_X10_contains at h
  refine a_iload_n C dX10_contains_0 rfl 0 rfl rfl ?_
  refine a_iload_n C dX10_contains_1 rfl 1 rfl rfl ?_
  refine a_ishr C dX10_contains_2 rfl ?_
  refine a_iconst (v := 1) C dX10_contains_3 (by decide) rfl ?_
  refine a_iand C dX10_contains_4 rfl ?_
  refine a_if_eq (tgt := 12) C dX10_contains_5 (by decide) rfl (fun hc => ?_) (fun hc => ?_)
  · replace h := h.1 hc
    refine a_iconst (v := 0) C dX10_contains_12 (by decide) rfl ?_
    refine a_sub (lv' := []) [] rfl ?_
    exact c_X10_contains_13 C hr hlocks hE   u 0  h
  · replace h := h.2 hc
    refine a_iconst (v := 1) C dX10_contains_8 (by decide) rfl ?_
    refine a_goto (tgt := 13) C dX10_contains_9 (by decide) ?_
    refine a_sub (lv' := []) [] rfl ?_
    exact c_X10_contains_13 C hr hlocks hE   u 1  h

/-! CensusWalk$Routes.isCrossing(I)Z -/
theorem pd_X1_isCrossing : (⟨"CensusWalk$Routes", "isCrossing", "(I)Z"⟩ : MethodName).cls ≠ "java/lang/invoke/MethodHandle" ∧ (⟨"CensusWalk$Routes", "isCrossing", "(I)Z"⟩ : MethodName).cls ≠ "java/lang/invoke/VarHandle" ∧ (parseMethodDescriptor (⟨"CensusWalk$Routes", "isCrossing", "(I)Z"⟩ : MethodName).desc).map (fun d => d.parameters.length) = some 1 := by decide +kernel
def wp_X1_isCrossing_15 (E : ms_En) (a0 : Int32) (post : Int32 → ms_St → Prop)  (u : ms_St) (z0 : Int32) : Prop := (z0 = 0 ∨ z0 = 1) ∧ (post z0 u)
set_option maxHeartbeats 4000000 in
set_option maxRecDepth 100000 in
theorem c_X1_isCrossing_15 {p : Program} {l : Launch} {e : Env} {s : State} {m : MethodId} {args : Array Value} {below : List Frame} {meth : Method} {c : Code} {G : va_G} {cy : Nat → ClassId} {A : Nat → Prop} {L : Nat → Nat} {E : ms_En} (C : ms_Cx p m c cX1_isCrossing 1 s args (Cond.code ⟨"CensusWalk$Routes", "isCrossing", "(I)Z"⟩ prog_3_method_9_code 1 (some .boolean)) "CensusWalk$Routes" G cy A) (hr : meth.sig.returnType = (some .boolean)) (hlocks : meth.locks = false) (hE : ms_WT E) {a0 : Int32} {post : Int32 → ms_St → Prop}    (u : ms_St) (z0 : Int32)  (h : wp_X1_isCrossing_15 E a0 post u z0) : ms_At p l e ({ frames := 0, cells := 0, slots := 0, locals := 0 } : Room) s m args below meth c 1 G cy A L 0 0 (ms_QI below args s G cy L E A post 0 0) E u 15 [] [.int z0] := by
  unfold wp_X1_isCrossing_15 at h
  obtain ⟨q15, h⟩ := h
  exact a_zret C dX1_isCrossing_15 hr hlocks (Nat.le_of_ble_eq_true rfl) (Nat.le_of_ble_eq_true rfl) (ms_nz q15) h
def wp_X1_isCrossing_14 (E : ms_En) (a0 : Int32) (post : Int32 → ms_St → Prop)  (u : ms_St)  : Prop := wp_X1_isCrossing_15 E a0 post u 0
set_option maxHeartbeats 4000000 in
set_option maxRecDepth 100000 in
theorem c_X1_isCrossing_14 {p : Program} {l : Launch} {e : Env} {s : State} {m : MethodId} {args : Array Value} {below : List Frame} {meth : Method} {c : Code} {G : va_G} {cy : Nat → ClassId} {A : Nat → Prop} {L : Nat → Nat} {E : ms_En} (C : ms_Cx p m c cX1_isCrossing 1 s args (Cond.code ⟨"CensusWalk$Routes", "isCrossing", "(I)Z"⟩ prog_3_method_9_code 1 (some .boolean)) "CensusWalk$Routes" G cy A) (hr : meth.sig.returnType = (some .boolean)) (hlocks : meth.locks = false) (hE : ms_WT E) {a0 : Int32} {post : Int32 → ms_St → Prop}    (u : ms_St)   (h : wp_X1_isCrossing_14 E a0 post u ) : ms_At p l e ({ frames := 0, cells := 0, slots := 0, locals := 0 } : Room) s m args below meth c 1 G cy A L 0 0 (ms_QI below args s G cy L E A post 0 0) E u 14 [] [] := by
  unfold wp_X1_isCrossing_14 at h
  refine a_iconst (v := 0) C dX1_isCrossing_14 (by decide) rfl ?_
  exact c_X1_isCrossing_15 C hr hlocks hE   u 0  h
def wp_X1_isCrossing (E : ms_En) (u : ms_St) (a0 : Int32) (post : Int32 → ms_St → Prop) : Prop := (a0 < 0 → wp_X1_isCrossing_14 E a0 post u) ∧ (¬ a0 < 0 → (10 ≤ a0 → wp_X1_isCrossing_14 E a0 post u) ∧ (¬ 10 ≤ a0 → wp_X1_isCrossing_15 E a0 post u 1))
set_option maxHeartbeats 4000000 in
set_option maxRecDepth 100000 in
theorem c_X1_isCrossing (l : Launch) (G : va_G) (cy : Nat → ClassId) (L : Nat → Nat) (E : ms_En) (hE : ms_WT E) (u : ms_St) (a0 : Int32)  (post : Int32 → ms_St → Prop) (h : wp_X1_isCrossing E u a0 post) : ms_MetI l ⟨"CensusWalk$Routes", "isCrossing", "(I)Z"⟩ (Cond.code ⟨"CensusWalk$Routes", "isCrossing", "(I)Z"⟩ prog_3_method_9_code 1 (some .boolean) :: lw_g) ({ frames := 0, cells := 0, slots := 0, locals := 0 } : Room) G cy L E [.int a0] u post 0 0 := by
  refine ms_enterI (lv := [(0, .int a0)]) (by decide) (Nat.le_of_ble_eq_true rfl) rfl ?_
  intro p e s m args below meth c A C hr hlocks
  unfold wp_X1_isCrossing at h
  refine a_iload_n C dX1_isCrossing_0 rfl 0 rfl rfl ?_
  refine a_if_lt (tgt := 14) C dX1_isCrossing_1 (by decide) rfl (fun hc => ?_) (fun hc => ?_)
  · replace h := h.1 hc
    refine a_sub (lv' := []) [] rfl ?_
    exact c_X1_isCrossing_14 C hr hlocks hE   u  h
  · replace h := h.2 hc
    refine a_iload_n C dX1_isCrossing_4 rfl 0 rfl rfl ?_
    refine a_bipush (v := 10) C dX1_isCrossing_5 (by decide) rfl ?_
    refine a_icmp_ge (tgt := 14) C dX1_isCrossing_7 (by decide) rfl (fun hc => ?_) (fun hc => ?_)
    · replace h := h.1 hc
      refine a_sub (lv' := []) [] rfl ?_
      exact c_X1_isCrossing_14 C hr hlocks hE   u  h
    · replace h := h.2 hc
      refine a_iconst (v := 1) C dX1_isCrossing_10 (by decide) rfl ?_
      refine a_goto (tgt := 15) C dX1_isCrossing_11 (by decide) ?_
      refine a_sub (lv' := []) [] rfl ?_
      exact c_X1_isCrossing_15 C hr hlocks hE   u 1  h

/-! CensusWalk$Routes.way(II)I -/
theorem pd_X1_way : (⟨"CensusWalk$Routes", "way", "(II)I"⟩ : MethodName).cls = "CensusWalk$Routes" ∧ (⟨"CensusWalk$Routes", "way", "(II)I"⟩ : MethodName).cls ≠ "java/lang/invoke/MethodHandle" ∧ (⟨"CensusWalk$Routes", "way", "(II)I"⟩ : MethodName).cls ≠ "java/lang/invoke/VarHandle" ∧ (parseMethodDescriptor (⟨"CensusWalk$Routes", "way", "(II)I"⟩ : MethodName).desc).map (fun d => d.parameters.length) = some 2 := by decide +kernel
def wp_X1_way_30 (E : ms_En) (o : Nat) (a1 : Int32) (a2 : Int32) (post : Int32 → ms_St → Prop)  (u : ms_St) (z0 : Int32) : Prop := post z0 u
set_option maxHeartbeats 4000000 in
set_option maxRecDepth 100000 in
theorem c_X1_way_30 {p : Program} {l : Launch} {e : Env} {s : State} {m : MethodId} {args : Array Value} {below : List Frame} {meth : Method} {c : Code} {G : va_G} {cy : Nat → ClassId} {A : Nat → Prop} {L : Nat → Nat} {E : ms_En} (C : ms_Cx p m c cX1_way 3 s args (Cond.code ⟨"CensusWalk$Routes", "way", "(II)I"⟩ prog_3_method_8_code 3 (some .int)) "CensusWalk$Routes" G cy A) (hr : meth.sig.returnType = (some .int)) (hlocks : meth.locks = false) (hE : ms_WT E) {o : Nat} {a1 : Int32} {a2 : Int32} {post : Int32 → ms_St → Prop}  (ho : ms_is E o 1)  (u : ms_St) (z0 : Int32)  (h : wp_X1_way_30 E o a1 a2 post u z0) : ms_At p l e ({ frames := 1, cells := 0, slots := 0, locals := 20 } : Room) s m args below meth c 3 G cy A L 0 0 (ms_QI below args s G cy L E A post 0 0) E u 30 [] [.int z0] := by
  unfold wp_X1_way_30 at h
  exact a_iret C dX1_way_30 hr hlocks (Nat.le_of_ble_eq_true rfl) (Nat.le_of_ble_eq_true rfl) h
def wp_X1_way_28 (E : ms_En) (o : Nat) (a1 : Int32) (a2 : Int32) (post : Int32 → ms_St → Prop)  (u : ms_St)  : Prop := wp_X1_way_30 E o a1 a2 post u 1000000
set_option maxHeartbeats 4000000 in
set_option maxRecDepth 100000 in
theorem c_X1_way_28 {p : Program} {l : Launch} {e : Env} {s : State} {m : MethodId} {args : Array Value} {below : List Frame} {meth : Method} {c : Code} {G : va_G} {cy : Nat → ClassId} {A : Nat → Prop} {L : Nat → Nat} {E : ms_En} (C : ms_Cx p m c cX1_way 3 s args (Cond.code ⟨"CensusWalk$Routes", "way", "(II)I"⟩ prog_3_method_8_code 3 (some .int)) "CensusWalk$Routes" G cy A) (hr : meth.sig.returnType = (some .int)) (hlocks : meth.locks = false) (hE : ms_WT E) {o : Nat} {a1 : Int32} {a2 : Int32} {post : Int32 → ms_St → Prop}  (ho : ms_is E o 1)  (u : ms_St)   (h : wp_X1_way_28 E o a1 a2 post u ) : ms_At p l e ({ frames := 1, cells := 0, slots := 0, locals := 20 } : Room) s m args below meth c 3 G cy A L 0 0 (ms_QI below args s G cy L E A post 0 0) E u 28 [] [] := by
  unfold wp_X1_way_28 at h
  refine a_ldc (v := 1000000) C dX1_way_28 kw_2_234 rfl ?_
  exact c_X1_way_30 C hr hlocks hE ho  u 1000000  h
def wp_X1_way (E : ms_En) (u : ms_St) (o : Nat) (a1 : Int32) (a2 : Int32) (post : Int32 → ms_St → Prop) : Prop := wp_X1_isCrossing E u a1 (fun r1 u1 => (r1 = 0 → wp_X1_way_28 E o a1 a2 post u1) ∧ (¬ r1 = 0 → wp_X1_isCrossing E u1 a2 (fun r8 u8 => (r8 = 0 → wp_X1_way_28 E o a1 a2 post u8) ∧ (¬ r8 = 0 → vp_in ((a1 * 10) + a2) 100 ∧ (wp_X1_way_30 E o a1 a2 post u8 (ms_I u8 (ms_at E o 0) (Int32.toNatClampNeg ((a1 * 10) + a2))))))))
set_option maxHeartbeats 4000000 in
set_option maxRecDepth 100000 in
theorem c_X1_way (l : Launch) (G : va_G) (cy : Nat → ClassId) (L : Nat → Nat) (E : ms_En) (hE : ms_WT E) (u : ms_St) (o : Nat) (a1 : Int32) (a2 : Int32) (ho : ms_is E o 1) (post : Int32 → ms_St → Prop) (h : wp_X1_way E u o a1 a2 post) : ms_MetI l ⟨"CensusWalk$Routes", "way", "(II)I"⟩ (Cond.code ⟨"CensusWalk$Routes", "way", "(II)I"⟩ prog_3_method_8_code 3 (some .int) :: lw_g) ({ frames := 1, cells := 0, slots := 0, locals := 20 } : Room) G cy L E [.ref (L o), .int a1, .int a2] u post 0 0 := by
  refine ms_enterI (lv := [(0, .ref (L o)), (1, .int a1), (2, .int a2)]) (by decide) (Nat.le_of_ble_eq_true rfl) rfl ?_
  intro p e s m args below meth c A C hr hlocks
  unfold wp_X1_way at h
  refine a_iload_n C dX1_way_0 rfl 1 rfl rfl ?_
  refine a_callSI C (c_X1_isCrossing l G cy L E hE u a1  _ h) kw_3_2 kw_3_3 kw_1_9 kw_3_4 rfl rfl pd_X1_isCrossing ⟨(Nat.le_of_ble_eq_true rfl), (Nat.le_of_ble_eq_true rfl)⟩ dX1_way_1 rfl (Nat.le_of_ble_eq_true rfl) ⟨(Nat.le_of_ble_eq_true rfl), (Nat.le_of_ble_eq_true rfl)⟩ rfl (fun r1 u1 h => ?_)
  refine a_if_eq (tgt := 28) C dX1_way_4 (by decide) rfl (fun hc => ?_) (fun hc => ?_)
  · replace h := h.1 hc
    refine a_sub (lv' := []) [] rfl ?_
    exact c_X1_way_28 C hr hlocks hE ho  u1  h
  · replace h := h.2 hc
    refine a_iload_n C dX1_way_7 rfl 2 rfl rfl ?_
    refine a_callSI C (c_X1_isCrossing l G cy L E hE u1 a2  _ h) kw_3_2 kw_3_3 kw_1_9 kw_3_4 rfl rfl pd_X1_isCrossing ⟨(Nat.le_of_ble_eq_true rfl), (Nat.le_of_ble_eq_true rfl)⟩ dX1_way_8 rfl (Nat.le_of_ble_eq_true rfl) ⟨(Nat.le_of_ble_eq_true rfl), (Nat.le_of_ble_eq_true rfl)⟩ rfl (fun r8 u8 h => ?_)
    refine a_if_eq (tgt := 28) C dX1_way_11 (by decide) rfl (fun hc => ?_) (fun hc => ?_)
    · replace h := h.1 hc
      refine a_sub (lv' := []) [] rfl ?_
      exact c_X1_way_28 C hr hlocks hE ho  u8  h
    · replace h := h.2 hc
      refine a_aload_n C dX1_way_14 rfl 0 rfl rfl ?_
      refine g_1_0 C hE dX1_way_15 ho kw_2_49 rfl ?_
      have k15 : ms_is E (ms_at E o 0) 13 := ms_wt hE ho rfl (by decide)
      have n15 : ms_N E (ms_at E o 0) = 100 := ms_wl hE ho (by decide) (by decide) rfl
      refine a_iload_n C dX1_way_18 rfl 1 rfl rfl ?_
      refine a_bipush (v := 10) C dX1_way_19 (by decide) rfl ?_
      refine a_imul C dX1_way_21 rfl ?_
      refine a_iload_n C dX1_way_22 rfl 2 rfl rfl ?_
      refine a_iadd C dX1_way_23 rfl ?_
      obtain ⟨q24, h⟩ := h
      refine a_iald C dX1_way_24 k15 n15 q24 rfl ?_
      refine a_goto (tgt := 30) C dX1_way_25 (by decide) ?_
      refine a_sub (lv' := []) [] rfl ?_
      exact c_X1_way_30 C hr hlocks hE ho  u8 (ms_I u8 (ms_at E o 0) (Int32.toNatClampNeg ((a1 * 10) + a2)))  h

/-! CensusWalk$Routes.shorten(III)V -/
theorem pd_X1_shorten : (⟨"CensusWalk$Routes", "shorten", "(III)V"⟩ : MethodName).cls = "CensusWalk$Routes" ∧ (⟨"CensusWalk$Routes", "shorten", "(III)V"⟩ : MethodName).cls ≠ "java/lang/invoke/MethodHandle" ∧ (⟨"CensusWalk$Routes", "shorten", "(III)V"⟩ : MethodName).cls ≠ "java/lang/invoke/VarHandle" ∧ (parseMethodDescriptor (⟨"CensusWalk$Routes", "shorten", "(III)V"⟩ : MethodName).desc).map (fun d => d.parameters.length) = some 3 := by decide +kernel
def wp_X1_shorten_41 (E : ms_En) (o : Nat) (a1 : Int32) (a2 : Int32) (a3 : Int32) (post : ms_St → Prop)  (u : ms_St)  : Prop := post u
set_option maxHeartbeats 4000000 in
set_option maxRecDepth 100000 in
theorem c_X1_shorten_41 {p : Program} {l : Launch} {e : Env} {s : State} {m : MethodId} {args : Array Value} {below : List Frame} {meth : Method} {c : Code} {G : va_G} {cy : Nat → ClassId} {A : Nat → Prop} {L : Nat → Nat} {E : ms_En} (C : ms_Cx p m c cX1_shorten 4 s args (Cond.code ⟨"CensusWalk$Routes", "shorten", "(III)V"⟩ prog_3_method_7_code 4 none) "CensusWalk$Routes" G cy A) (hr : meth.sig.returnType = none) (hlocks : meth.locks = false) (hE : ms_WT E) {o : Nat} {a1 : Int32} {a2 : Int32} {a3 : Int32} {post : ms_St → Prop}  (ho : ms_is E o 1)  (u : ms_St)   (h : wp_X1_shorten_41 E o a1 a2 a3 post u ) : ms_At p l e ({ frames := 1, cells := 0, slots := 0, locals := 20 } : Room) s m args below meth c 4 G cy A L 0 0 (ms_QV below args s G cy L E A post 0 0) E u 41 [] [] := by
  unfold wp_X1_shorten_41 at h
  exact a_vret C dX1_shorten_41 hr hlocks (Nat.le_of_ble_eq_true rfl) (Nat.le_of_ble_eq_true rfl) h
def wp_X1_shorten (E : ms_En) (u : ms_St) (o : Nat) (a1 : Int32) (a2 : Int32) (a3 : Int32) (post : ms_St → Prop) : Prop := wp_X1_isCrossing E u a1 (fun r1 u1 => (r1 = 0 → wp_X1_shorten_41 E o a1 a2 a3 post u1) ∧ (¬ r1 = 0 → wp_X1_isCrossing E u1 a2 (fun r8 u8 => (r8 = 0 → wp_X1_shorten_41 E o a1 a2 a3 post u8) ∧ (¬ r8 = 0 → vp_in ((a1 * 10) + a2) 100 ∧ (((ms_I u8 (ms_at E o 0) (Int32.toNatClampNeg ((a1 * 10) + a2))) ≤ a3 → wp_X1_shorten_41 E o a1 a2 a3 post u8) ∧ (¬ (ms_I u8 (ms_at E o 0) (Int32.toNatClampNeg ((a1 * 10) + a2))) ≤ a3 → vp_in ((a1 * 10) + a2) 100 ∧ (wp_X1_shorten_41 E o a1 a2 a3 post (ms_sI u8 (ms_at E o 0) (Int32.toNatClampNeg ((a1 * 10) + a2)) a3))))))))
set_option maxHeartbeats 4000000 in
set_option maxRecDepth 100000 in
theorem c_X1_shorten (l : Launch) (G : va_G) (cy : Nat → ClassId) (L : Nat → Nat) (E : ms_En) (hE : ms_WT E) (u : ms_St) (o : Nat) (a1 : Int32) (a2 : Int32) (a3 : Int32) (ho : ms_is E o 1) (post : ms_St → Prop) (h : wp_X1_shorten E u o a1 a2 a3 post) : ms_MetV l ⟨"CensusWalk$Routes", "shorten", "(III)V"⟩ (Cond.code ⟨"CensusWalk$Routes", "shorten", "(III)V"⟩ prog_3_method_7_code 4 none :: lw_g) ({ frames := 1, cells := 0, slots := 0, locals := 20 } : Room) G cy L E [.ref (L o), .int a1, .int a2, .int a3] u post 0 0 := by
  refine ms_enterV (lv := [(0, .ref (L o)), (1, .int a1), (2, .int a2), (3, .int a3)]) (by decide) (Nat.le_of_ble_eq_true rfl) rfl ?_
  intro p e s m args below meth c A C hr hlocks
  unfold wp_X1_shorten at h
  refine a_iload_n C dX1_shorten_0 rfl 1 rfl rfl ?_
  refine a_callSI C (c_X1_isCrossing l G cy L E hE u a1  _ h) kw_3_2 kw_3_3 kw_1_9 kw_3_4 rfl rfl pd_X1_isCrossing ⟨(Nat.le_of_ble_eq_true rfl), (Nat.le_of_ble_eq_true rfl)⟩ dX1_shorten_1 rfl (Nat.le_of_ble_eq_true rfl) ⟨(Nat.le_of_ble_eq_true rfl), (Nat.le_of_ble_eq_true rfl)⟩ rfl (fun r1 u1 h => ?_)
  refine a_if_eq (tgt := 41) C dX1_shorten_4 (by decide) rfl (fun hc => ?_) (fun hc => ?_)
  · replace h := h.1 hc
    refine a_sub (lv' := []) [] rfl ?_
    exact c_X1_shorten_41 C hr hlocks hE ho  u1  h
  · replace h := h.2 hc
    refine a_iload_n C dX1_shorten_7 rfl 2 rfl rfl ?_
    refine a_callSI C (c_X1_isCrossing l G cy L E hE u1 a2  _ h) kw_3_2 kw_3_3 kw_1_9 kw_3_4 rfl rfl pd_X1_isCrossing ⟨(Nat.le_of_ble_eq_true rfl), (Nat.le_of_ble_eq_true rfl)⟩ dX1_shorten_8 rfl (Nat.le_of_ble_eq_true rfl) ⟨(Nat.le_of_ble_eq_true rfl), (Nat.le_of_ble_eq_true rfl)⟩ rfl (fun r8 u8 h => ?_)
    refine a_if_eq (tgt := 41) C dX1_shorten_11 (by decide) rfl (fun hc => ?_) (fun hc => ?_)
    · replace h := h.1 hc
      refine a_sub (lv' := []) [] rfl ?_
      exact c_X1_shorten_41 C hr hlocks hE ho  u8  h
    · replace h := h.2 hc
      refine a_iload_n C dX1_shorten_14 rfl 3 rfl rfl ?_
      refine a_aload_n C dX1_shorten_15 rfl 0 rfl rfl ?_
      refine g_1_0 C hE dX1_shorten_16 ho kw_2_49 rfl ?_
      have k16 : ms_is E (ms_at E o 0) 13 := ms_wt hE ho rfl (by decide)
      have n16 : ms_N E (ms_at E o 0) = 100 := ms_wl hE ho (by decide) (by decide) rfl
      refine a_iload_n C dX1_shorten_19 rfl 1 rfl rfl ?_
      refine a_bipush (v := 10) C dX1_shorten_20 (by decide) rfl ?_
      refine a_imul C dX1_shorten_22 rfl ?_
      refine a_iload_n C dX1_shorten_23 rfl 2 rfl rfl ?_
      refine a_iadd C dX1_shorten_24 rfl ?_
      obtain ⟨q25, h⟩ := h
      refine a_iald C dX1_shorten_25 k16 n16 q25 rfl ?_
      refine a_icmp_ge (tgt := 41) C dX1_shorten_26 (by decide) rfl (fun hc => ?_) (fun hc => ?_)
      · replace h := h.1 hc
        refine a_sub (lv' := []) [] rfl ?_
        exact c_X1_shorten_41 C hr hlocks hE ho  u8  h
      · replace h := h.2 hc
        refine a_aload_n C dX1_shorten_29 rfl 0 rfl rfl ?_
        refine g_1_0 C hE dX1_shorten_30 ho kw_2_49 rfl ?_
        refine a_iload_n C dX1_shorten_33 rfl 1 rfl rfl ?_
        refine a_bipush (v := 10) C dX1_shorten_34 (by decide) rfl ?_
        refine a_imul C dX1_shorten_36 rfl ?_
        refine a_iload_n C dX1_shorten_37 rfl 2 rfl rfl ?_
        refine a_iadd C dX1_shorten_38 rfl ?_
        refine a_iload_n C dX1_shorten_39 rfl 3 rfl rfl ?_
        obtain ⟨q40, h⟩ := h
        refine a_iast C dX1_shorten_40 k16 n16 q40 rfl ?_
        refine a_sub (lv' := []) [] rfl ?_
        exact c_X1_shorten_41 C hr hlocks hE ho  (ms_sI u8 (ms_at E o 0) (Int32.toNatClampNeg ((a1 * 10) + a2)) a3)  h

/-! CensusWalk$Routes.shortenAllFrom(III)V -/
theorem pd_X1_shortenAllFrom : (⟨"CensusWalk$Routes", "shortenAllFrom", "(III)V"⟩ : MethodName).cls = "CensusWalk$Routes" ∧ (⟨"CensusWalk$Routes", "shortenAllFrom", "(III)V"⟩ : MethodName).cls ≠ "java/lang/invoke/MethodHandle" ∧ (⟨"CensusWalk$Routes", "shortenAllFrom", "(III)V"⟩ : MethodName).cls ≠ "java/lang/invoke/VarHandle" ∧ (parseMethodDescriptor (⟨"CensusWalk$Routes", "shortenAllFrom", "(III)V"⟩ : MethodName).desc).map (fun d => d.parameters.length) = some 3 := by decide +kernel
def wp_X1_shortenAllFrom_19 (E : ms_En) (o : Nat) (a1 : Int32) (a2 : Int32) (a3 : Int32) (post : ms_St → Prop)  : Nat → ms_St → Int32 → Int32 → Prop
  | 0 => fun _ _ _ => False
  | n + 1 => fun u x4 x5 => (a3 ≤ x5 → post u) ∧ (¬ a3 ≤ x5 → wp_X1_way E u o a2 x5 (fun r35 u35 => wp_X1_shorten E u35 o a1 x5 (x4 + r35) (fun u39 => wp_X1_shortenAllFrom_19 E o a1 a2 a3 post n u39 x4 (x5 + 1))))
set_option maxHeartbeats 4000000 in
set_option maxRecDepth 100000 in
theorem c_X1_shortenAllFrom_19 {p : Program} {l : Launch} {e : Env} {s : State} {m : MethodId} {args : Array Value} {below : List Frame} {meth : Method} {c : Code} {G : va_G} {cy : Nat → ClassId} {A : Nat → Prop} {L : Nat → Nat} {E : ms_En} (C : ms_Cx p m c cX1_shortenAllFrom 6 s args (Cond.code ⟨"CensusWalk$Routes", "shortenAllFrom", "(III)V"⟩ prog_3_method_6_code 6 none) "CensusWalk$Routes" G cy A) (hr : meth.sig.returnType = none) (hlocks : meth.locks = false) (hE : ms_WT E) {o : Nat} {a1 : Int32} {a2 : Int32} {a3 : Int32} {post : ms_St → Prop}  (ho : ms_is E o 1)  : ∀ (n : Nat) (u : ms_St) (x4 : Int32) (x5 : Int32), wp_X1_shortenAllFrom_19 E o a1 a2 a3 post n u x4 x5 → ms_At p l e ({ frames := 2, cells := 0, slots := 0, locals := 43 } : Room) s m args below meth c 6 G cy A L 0 0 (ms_QV below args s G cy L E A post 0 0) E u 19 [(0, .ref (L o)), (1, .int a1), (2, .int a2), (3, .int a3), (4, .int x4), (5, .int x5)] [] := by
  intro n
  induction n with
  | zero =>
    intro u x4 x5  h
    exact absurd h id
  | succ n ih =>
    intro u x4 x5  h
    unfold wp_X1_shortenAllFrom_19 at h
    refine a_iload C dX1_shortenAllFrom_19 5 rfl rfl ?_
    refine a_iload_n C dX1_shortenAllFrom_21 rfl 3 rfl rfl ?_
    refine a_icmp_ge (tgt := 48) C dX1_shortenAllFrom_22 (by decide) rfl (fun hc => ?_) (fun hc => ?_)
    · replace h := h.1 hc
      exact a_vret C dX1_shortenAllFrom_48 hr hlocks (Nat.le_of_ble_eq_true rfl) (Nat.le_of_ble_eq_true rfl) h
    · replace h := h.2 hc
      refine a_aload_n C dX1_shortenAllFrom_25 rfl 0 rfl rfl ?_
      refine a_iload_n C dX1_shortenAllFrom_26 rfl 1 rfl rfl ?_
      refine a_iload C dX1_shortenAllFrom_27 5 rfl rfl ?_
      refine a_iload C dX1_shortenAllFrom_29 4 rfl rfl ?_
      refine a_aload_n C dX1_shortenAllFrom_31 rfl 0 rfl rfl ?_
      refine a_iload_n C dX1_shortenAllFrom_32 rfl 2 rfl rfl ?_
      refine a_iload C dX1_shortenAllFrom_33 5 rfl rfl ?_
      refine a_callVI C (c_X1_way l G cy L E hE u o a2 x5 ho _ h) ho rfl (by decide) kw_3_9 kw_3_11 kp_5 kw_1_9 kw_3_12 rfl rfl pd_X1_way ⟨(Nat.le_of_ble_eq_true rfl), (Nat.le_of_ble_eq_true rfl)⟩ dX1_shortenAllFrom_35 rfl (Nat.le_of_ble_eq_true rfl) ⟨(Nat.le_of_ble_eq_true rfl), (Nat.le_of_ble_eq_true rfl)⟩ rfl (fun r35 u35 h => ?_)
      refine a_iadd C dX1_shortenAllFrom_38 rfl ?_
      refine a_callVV C (c_X1_shorten l G cy L E hE u35 o a1 x5 (x4 + r35) ho _ h) ho rfl (by decide) kw_2_238 kw_3_0 kp_3 kw_1_9 kw_3_1 rfl rfl pd_X1_shorten ⟨(Nat.le_of_ble_eq_true rfl), (Nat.le_of_ble_eq_true rfl)⟩ dX1_shortenAllFrom_39 rfl (Nat.le_of_ble_eq_true rfl) ⟨(Nat.le_of_ble_eq_true rfl), (Nat.le_of_ble_eq_true rfl)⟩ rfl (fun u39 h => ?_)
      refine a_iinc (lv' := [(0, .ref (L o)), (1, .int a1), (2, .int a2), (3, .int a3), (4, .int x4), (5, .int (x5 + 1))]) (v := (x5 + 1)) C dX1_shortenAllFrom_42 5 rfl (congrArg (fun z => x5 + z) (by decide)) (by decide) [1, 2, 3, 4, 5, 0] rfl rfl ?_
      refine a_goto (tgt := 19) C dX1_shortenAllFrom_45 (by decide) ?_
      exact ih u39 x4 (x5 + 1)  h
def wp_X1_shortenAllFrom (E : ms_En) (u : ms_St) (o : Nat) (a1 : Int32) (a2 : Int32) (a3 : Int32) (post : ms_St → Prop) : Prop := wp_X1_way E u o a1 a2 (fun r3 u3 => (r3 < 1000000 → ∃ n19, wp_X1_shortenAllFrom_19 E o a1 a2 a3 post n19 u3 r3 0) ∧ (¬ r3 < 1000000 → post u3))
set_option maxHeartbeats 4000000 in
set_option maxRecDepth 100000 in
theorem c_X1_shortenAllFrom (l : Launch) (G : va_G) (cy : Nat → ClassId) (L : Nat → Nat) (E : ms_En) (hE : ms_WT E) (u : ms_St) (o : Nat) (a1 : Int32) (a2 : Int32) (a3 : Int32) (ho : ms_is E o 1) (post : ms_St → Prop) (h : wp_X1_shortenAllFrom E u o a1 a2 a3 post) : ms_MetV l ⟨"CensusWalk$Routes", "shortenAllFrom", "(III)V"⟩ (Cond.code ⟨"CensusWalk$Routes", "shortenAllFrom", "(III)V"⟩ prog_3_method_6_code 6 none :: lw_g) ({ frames := 2, cells := 0, slots := 0, locals := 43 } : Room) G cy L E [.ref (L o), .int a1, .int a2, .int a3] u post 0 0 := by
  refine ms_enterV (lv := [(0, .ref (L o)), (1, .int a1), (2, .int a2), (3, .int a3)]) (by decide) (Nat.le_of_ble_eq_true rfl) rfl ?_
  intro p e s m args below meth c A C hr hlocks
  unfold wp_X1_shortenAllFrom at h
  refine a_aload_n C dX1_shortenAllFrom_0 rfl 0 rfl rfl ?_
  refine a_iload_n C dX1_shortenAllFrom_1 rfl 1 rfl rfl ?_
  refine a_iload_n C dX1_shortenAllFrom_2 rfl 2 rfl rfl ?_
  refine a_callVI C (c_X1_way l G cy L E hE u o a1 a2 ho _ h) ho rfl (by decide) kw_3_9 kw_3_11 kp_5 kw_1_9 kw_3_12 rfl rfl pd_X1_way ⟨(Nat.le_of_ble_eq_true rfl), (Nat.le_of_ble_eq_true rfl)⟩ dX1_shortenAllFrom_3 rfl (Nat.le_of_ble_eq_true rfl) ⟨(Nat.le_of_ble_eq_true rfl), (Nat.le_of_ble_eq_true rfl)⟩ rfl (fun r3 u3 h => ?_)
  refine a_istore (lv' := [(0, .ref (L o)), (1, .int a1), (2, .int a2), (3, .int a3), (4, .int r3)]) C dX1_shortenAllFrom_6 (by decide) [1, 2, 3, 4, 0] rfl rfl ?_
  refine a_iload C dX1_shortenAllFrom_8 4 rfl rfl ?_
  refine a_ldc (v := 1000000) C dX1_shortenAllFrom_10 kw_2_234 rfl ?_
  refine a_icmp_lt (tgt := 16) C dX1_shortenAllFrom_12 (by decide) rfl (fun hc => ?_) (fun hc => ?_)
  · replace h := h.1 hc
    refine a_iconst (v := 0) C dX1_shortenAllFrom_16 (by decide) rfl ?_
    refine a_istore (lv' := [(0, .ref (L o)), (1, .int a1), (2, .int a2), (3, .int a3), (4, .int r3), (5, .int 0)]) C dX1_shortenAllFrom_17 (by decide) [1, 2, 3, 4, 5, 0] rfl rfl ?_
    obtain ⟨n9, h⟩ := h
    exact c_X1_shortenAllFrom_19 C hr hlocks hE ho  n9 u3 r3 0  h
  · replace h := h.2 hc
    exact a_vret C dX1_shortenAllFrom_15 hr hlocks (Nat.le_of_ble_eq_true rfl) (Nat.le_of_ble_eq_true rfl) h

/-! CensusWalk$Routes.reach(LCensusWalk$Town;II)I -/
theorem pd_X1_reach : (⟨"CensusWalk$Routes", "reach", "(LCensusWalk$Town;II)I"⟩ : MethodName).cls = "CensusWalk$Routes" ∧ (⟨"CensusWalk$Routes", "reach", "(LCensusWalk$Town;II)I"⟩ : MethodName).cls ≠ "java/lang/invoke/MethodHandle" ∧ (⟨"CensusWalk$Routes", "reach", "(LCensusWalk$Town;II)I"⟩ : MethodName).cls ≠ "java/lang/invoke/VarHandle" ∧ (parseMethodDescriptor (⟨"CensusWalk$Routes", "reach", "(LCensusWalk$Town;II)I"⟩ : MethodName).desc).map (fun d => d.parameters.length) = some 3 := by decide +kernel
def wp_X1_reach_54 (E : ms_En) (o : Nat) (a1 : Nat) (a2 : Int32) (a3 : Int32) (post : Int32 → ms_St → Prop)  (u : ms_St)  : Prop := post 1000000 u
set_option maxHeartbeats 4000000 in
set_option maxRecDepth 100000 in
theorem c_X1_reach_54 {p : Program} {l : Launch} {e : Env} {s : State} {m : MethodId} {args : Array Value} {below : List Frame} {meth : Method} {c : Code} {G : va_G} {cy : Nat → ClassId} {A : Nat → Prop} {L : Nat → Nat} {E : ms_En} (C : ms_Cx p m c cX1_reach 8 s args (Cond.code ⟨"CensusWalk$Routes", "reach", "(LCensusWalk$Town;II)I"⟩ prog_3_method_5_code 8 (some .int)) "CensusWalk$Routes" G cy A) (hr : meth.sig.returnType = (some .int)) (hlocks : meth.locks = false) (hE : ms_WT E) {o : Nat} {a1 : Nat} {a2 : Int32} {a3 : Int32} {post : Int32 → ms_St → Prop}  (ho : ms_is E o 1) (ha1 : ms_is E a1 7)  (u : ms_St)   (h : wp_X1_reach_54 E o a1 a2 a3 post u ) : ms_At p l e ({ frames := 2, cells := 0, slots := 0, locals := 42 } : Room) s m args below meth c 8 G cy A L 0 0 (ms_QI below args s G cy L E A post 0 0) E u 54 [] [] := by
  unfold wp_X1_reach_54 at h
  refine a_ldc (v := 1000000) C dX1_reach_54 kw_2_234 rfl ?_
  exact a_iret C dX1_reach_56 hr hlocks (Nat.le_of_ble_eq_true rfl) (Nat.le_of_ble_eq_true rfl) h
def wp_X1_reach (E : ms_En) (u : ms_St) (o : Nat) (a1 : Nat) (a2 : Int32) (a3 : Int32) (post : Int32 → ms_St → Prop) : Prop := wp_X0_has E u (ms_at E a1 4) a3 (fun r15 u15 => (r15 = 0 → post 1000000 u15) ∧ (¬ r15 = 0 → vp_in a3 16 ∧ (∀ v31 : Int32, v31 = (ms_I u15 (ms_at E (ms_at E a1 4) 1) (Int32.toNatClampNeg a3)) → (wp_X5_has E u15 (ms_at E a1 3) v31 (fun r37 u37 => (r37 = 0 → wp_X1_reach_54 E o a1 a2 a3 post u37) ∧ (¬ r37 = 0 → vp_in v31 12 ∧ (((ms_I u37 (ms_at E (ms_at E a1 3) 4) (Int32.toNatClampNeg v31)) = 0 → wp_X1_reach_54 E o a1 a2 a3 post u37) ∧ (¬ (ms_I u37 (ms_at E (ms_at E a1 3) 4) (Int32.toNatClampNeg v31)) = 0 → vp_in a3 16 ∧ (∀ v64 : Int32, v64 = (ms_I u37 (ms_at E (ms_at E a1 4) 2) (Int32.toNatClampNeg a3)) → (vp_in v31 12 ∧ (wp_X1_way E u37 o a2 (ms_I u37 (ms_at E (ms_at E a1 3) 1) (Int32.toNatClampNeg v31)) (fun r76 u76 => vp_in v31 12 ∧ (wp_X1_way E u76 o a2 (ms_I u76 (ms_at E (ms_at E a1 3) 2) (Int32.toNatClampNeg v31)) (fun r92 u92 => vp_in v31 12 ∧ (post (if ((r92 + (ms_I u92 (ms_at E (ms_at E a1 3) 3) (Int32.toNatClampNeg v31))) - v64) < (r76 + v64) then ((r92 + (ms_I u92 (ms_at E (ms_at E a1 3) 3) (Int32.toNatClampNeg v31))) - v64) else (r76 + v64)) u92)))))))))))))))
set_option maxHeartbeats 4000000 in
set_option maxRecDepth 100000 in
theorem c_X1_reach (l : Launch) (G : va_G) (cy : Nat → ClassId) (L : Nat → Nat) (E : ms_En) (hE : ms_WT E) (u : ms_St) (o : Nat) (a1 : Nat) (a2 : Int32) (a3 : Int32) (ho : ms_is E o 1) (ha1 : ms_is E a1 7) (post : Int32 → ms_St → Prop) (h : wp_X1_reach E u o a1 a2 a3 post) : ms_MetI l ⟨"CensusWalk$Routes", "reach", "(LCensusWalk$Town;II)I"⟩ (Cond.code ⟨"CensusWalk$Routes", "reach", "(LCensusWalk$Town;II)I"⟩ prog_3_method_5_code 8 (some .int) :: lw_g) ({ frames := 2, cells := 0, slots := 0, locals := 42 } : Room) G cy L E [.ref (L o), .ref (L a1), .int a2, .int a3] u post 0 0 := by
  refine ms_enterI (lv := [(0, .ref (L o)), (1, .ref (L a1)), (2, .int a2), (3, .int a3)]) (by decide) (Nat.le_of_ble_eq_true rfl) rfl ?_
  intro p e s m args below meth c A C hr hlocks
  unfold wp_X1_reach at h
  refine a_aload_n C dX1_reach_0 rfl 1 rfl rfl ?_
  refine g_7_3 C hE dX1_reach_1 ha1 kw_1_176 rfl ?_
  have k1 : ms_is E (ms_at E a1 3) 5 := ms_wt hE ha1 rfl (by decide)
  refine a_astore (lv' := [(0, .ref (L o)), (1, .ref (L a1)), (2, .int a2), (3, .int a3), (4, .ref (L (ms_at E a1 3)))]) C dX1_reach_4 (by decide) [1, 2, 3, 4, 0] rfl rfl ?_
  refine a_aload_n C dX1_reach_6 rfl 1 rfl rfl ?_
  refine g_7_4 C hE dX1_reach_7 ha1 kw_1_182 rfl ?_
  have k7 : ms_is E (ms_at E a1 4) 0 := ms_wt hE ha1 rfl (by decide)
  refine a_astore (lv' := [(0, .ref (L o)), (1, .ref (L a1)), (2, .int a2), (3, .int a3), (4, .ref (L (ms_at E a1 3))), (5, .ref (L (ms_at E a1 4)))]) C dX1_reach_10 (by decide) [1, 2, 3, 4, 5, 0] rfl rfl ?_
  refine a_aload C dX1_reach_12 5 rfl rfl ?_
  refine a_iload_n C dX1_reach_14 rfl 3 rfl rfl ?_
  refine a_callVI C (c_X0_has l G cy L E hE u (ms_at E a1 4) a3 k7 _ h) k7 rfl (by decide) kw_3_38 kw_3_39 kw_3_40 kw_1_4 kw_3_41 rfl rfl pd_X0_has ⟨(Nat.le_of_ble_eq_true rfl), (Nat.le_of_ble_eq_true rfl)⟩ dX1_reach_15 rfl (Nat.le_of_ble_eq_true rfl) ⟨(Nat.le_of_ble_eq_true rfl), (Nat.le_of_ble_eq_true rfl)⟩ rfl (fun r15 u15 h => ?_)
  refine a_if_ne (tgt := 24) C dX1_reach_18 (by decide) rfl (fun hc => ?_) (fun hc => ?_)
  · replace h := h.2 hc
    refine a_aload C dX1_reach_24 5 rfl rfl ?_
    refine g_0_1 C hE dX1_reach_26 k7 kw_1_88 rfl ?_
    have k26 : ms_is E (ms_at E (ms_at E a1 4) 1) 13 := ms_wt hE k7 rfl (by decide)
    have n26 : ms_N E (ms_at E (ms_at E a1 4) 1) = 16 := ms_wl hE k7 (by decide) (by decide) rfl
    refine a_iload_n C dX1_reach_29 rfl 3 rfl rfl ?_
    obtain ⟨q30, h⟩ := h
    refine a_iald C dX1_reach_30 k26 n26 q30 rfl ?_
    refine a_nmI (fun v31 e31 => ?_)
    replace h := h v31 e31
    refine a_istore (lv' := [(0, .ref (L o)), (1, .ref (L a1)), (2, .int a2), (3, .int a3), (4, .ref (L (ms_at E a1 3))), (5, .ref (L (ms_at E a1 4))), (6, .int v31)]) C dX1_reach_31 (by decide) [1, 2, 3, 4, 5, 6, 0] rfl rfl ?_
    refine a_aload C dX1_reach_33 4 rfl rfl ?_
    refine a_iload C dX1_reach_35 6 rfl rfl ?_
    refine a_callVI C (c_X5_has l G cy L E hE u15 (ms_at E a1 3) v31 k1 _ h) k1 rfl (by decide) kw_3_42 kw_3_43 kw_3_44 kw_1_3 kw_3_45 rfl rfl pd_X5_has ⟨(Nat.le_of_ble_eq_true rfl), (Nat.le_of_ble_eq_true rfl)⟩ dX1_reach_37 rfl (Nat.le_of_ble_eq_true rfl) ⟨(Nat.le_of_ble_eq_true rfl), (Nat.le_of_ble_eq_true rfl)⟩ rfl (fun r37 u37 h => ?_)
    refine a_if_eq (tgt := 54) C dX1_reach_40 (by decide) rfl (fun hc => ?_) (fun hc => ?_)
    · replace h := h.1 hc
      refine a_sub (lv' := []) [] rfl ?_
      exact c_X1_reach_54 C hr hlocks hE ho ha1  u37  h
    · replace h := h.2 hc
      refine a_aload C dX1_reach_43 4 rfl rfl ?_
      refine g_5_4 C hE dX1_reach_45 k1 kw_1_60 rfl ?_
      have k45 : ms_is E (ms_at E (ms_at E a1 3) 4) 15 := ms_wt hE k1 rfl (by decide)
      have n45 : ms_N E (ms_at E (ms_at E a1 3) 4) = 12 := ms_wl hE k1 (by decide) (by decide) rfl
      refine a_iload C dX1_reach_48 6 rfl rfl ?_
      obtain ⟨q50, h⟩ := h
      refine a_zald C dX1_reach_50 k45 n45 q50 rfl ?_
      refine a_if_ne (tgt := 57) C dX1_reach_51 (by decide) rfl (fun hc => ?_) (fun hc => ?_)
      · replace h := h.2 hc
        refine a_aload C dX1_reach_57 5 rfl rfl ?_
        refine g_0_2 C hE dX1_reach_59 k7 kw_1_92 rfl ?_
        have k59 : ms_is E (ms_at E (ms_at E a1 4) 2) 13 := ms_wt hE k7 rfl (by decide)
        have n59 : ms_N E (ms_at E (ms_at E a1 4) 2) = 16 := ms_wl hE k7 (by decide) (by decide) rfl
        refine a_iload_n C dX1_reach_62 rfl 3 rfl rfl ?_
        obtain ⟨q63, h⟩ := h
        refine a_iald C dX1_reach_63 k59 n59 q63 rfl ?_
        refine a_nmI (fun v64 e64 => ?_)
        replace h := h v64 e64
        refine a_istore (lv' := [(0, .ref (L o)), (1, .ref (L a1)), (2, .int a2), (3, .int a3), (4, .ref (L (ms_at E a1 3))), (5, .ref (L (ms_at E a1 4))), (6, .int v31), (7, .int v64)]) C dX1_reach_64 (by decide) [1, 2, 3, 4, 5, 6, 7, 0] rfl rfl ?_
        refine a_aload_n C dX1_reach_66 rfl 0 rfl rfl ?_
        refine a_iload_n C dX1_reach_67 rfl 2 rfl rfl ?_
        refine a_aload C dX1_reach_68 4 rfl rfl ?_
        refine g_5_1 C hE dX1_reach_70 k1 kw_1_53 rfl ?_
        have k70 : ms_is E (ms_at E (ms_at E a1 3) 1) 13 := ms_wt hE k1 rfl (by decide)
        have n70 : ms_N E (ms_at E (ms_at E a1 3) 1) = 12 := ms_wl hE k1 (by decide) (by decide) rfl
        refine a_iload C dX1_reach_73 6 rfl rfl ?_
        obtain ⟨q75, h⟩ := h
        refine a_iald C dX1_reach_75 k70 n70 q75 rfl ?_
        refine a_callVI C (c_X1_way l G cy L E hE u37 o a2 (ms_I u37 (ms_at E (ms_at E a1 3) 1) (Int32.toNatClampNeg v31)) ho _ h) ho rfl (by decide) kw_3_9 kw_3_11 kp_5 kw_1_9 kw_3_12 rfl rfl pd_X1_way ⟨(Nat.le_of_ble_eq_true rfl), (Nat.le_of_ble_eq_true rfl)⟩ dX1_reach_76 rfl (Nat.le_of_ble_eq_true rfl) ⟨(Nat.le_of_ble_eq_true rfl), (Nat.le_of_ble_eq_true rfl)⟩ rfl (fun r76 u76 h => ?_)
        refine a_iload C dX1_reach_79 7 rfl rfl ?_
        refine a_iadd C dX1_reach_81 rfl ?_
        refine a_aload_n C dX1_reach_82 rfl 0 rfl rfl ?_
        refine a_iload_n C dX1_reach_83 rfl 2 rfl rfl ?_
        refine a_aload C dX1_reach_84 4 rfl rfl ?_
        refine g_5_2 C hE dX1_reach_86 k1 kw_1_55 rfl ?_
        have k86 : ms_is E (ms_at E (ms_at E a1 3) 2) 13 := ms_wt hE k1 rfl (by decide)
        have n86 : ms_N E (ms_at E (ms_at E a1 3) 2) = 12 := ms_wl hE k1 (by decide) (by decide) rfl
        refine a_iload C dX1_reach_89 6 rfl rfl ?_
        obtain ⟨q91, h⟩ := h
        refine a_iald C dX1_reach_91 k86 n86 q91 rfl ?_
        refine a_callVI C (c_X1_way l G cy L E hE u76 o a2 (ms_I u76 (ms_at E (ms_at E a1 3) 2) (Int32.toNatClampNeg v31)) ho _ h) ho rfl (by decide) kw_3_9 kw_3_11 kp_5 kw_1_9 kw_3_12 rfl rfl pd_X1_way ⟨(Nat.le_of_ble_eq_true rfl), (Nat.le_of_ble_eq_true rfl)⟩ dX1_reach_92 rfl (Nat.le_of_ble_eq_true rfl) ⟨(Nat.le_of_ble_eq_true rfl), (Nat.le_of_ble_eq_true rfl)⟩ rfl (fun r92 u92 h => ?_)
        refine a_aload C dX1_reach_95 4 rfl rfl ?_
        refine g_5_3 C hE dX1_reach_97 k1 kw_1_57 rfl ?_
        have k97 : ms_is E (ms_at E (ms_at E a1 3) 3) 13 := ms_wt hE k1 rfl (by decide)
        have n97 : ms_N E (ms_at E (ms_at E a1 3) 3) = 12 := ms_wl hE k1 (by decide) (by decide) rfl
        refine a_iload C dX1_reach_100 6 rfl rfl ?_
        obtain ⟨q102, h⟩ := h
        refine a_iald C dX1_reach_102 k97 n97 q102 rfl ?_
        refine a_iadd C dX1_reach_103 rfl ?_
        refine a_iload C dX1_reach_104 7 rfl rfl ?_
        refine a_isub C dX1_reach_106 rfl ?_
        refine a_mmin C dX1_reach_107 kw_3_46 kw_3_47 kw_1_17 kw_3_48 (Nat.le_of_ble_eq_true rfl) (Nat.le_of_ble_eq_true rfl) (Nat.le_of_ble_eq_true rfl) (Nat.le_of_ble_eq_true rfl) rfl ?_
        exact a_iret C dX1_reach_110 hr hlocks (Nat.le_of_ble_eq_true rfl) (Nat.le_of_ble_eq_true rfl) h
      · replace h := h.1 hc
        refine a_sub (lv' := []) [] rfl ?_
        exact c_X1_reach_54 C hr hlocks hE ho ha1  u37  h
  · replace h := h.1 hc
    refine a_ldc (v := 1000000) C dX1_reach_21 kw_2_234 rfl ?_
    exact a_iret C dX1_reach_23 hr hlocks (Nat.le_of_ble_eq_true rfl) (Nat.le_of_ble_eq_true rfl) h

/-! CensusWalk$Routes.fromCrossing(LCensusWalk$Town;II)I -/
theorem pd_X1_fromCrossing : (⟨"CensusWalk$Routes", "fromCrossing", "(LCensusWalk$Town;II)I"⟩ : MethodName).cls = "CensusWalk$Routes" ∧ (⟨"CensusWalk$Routes", "fromCrossing", "(LCensusWalk$Town;II)I"⟩ : MethodName).cls ≠ "java/lang/invoke/MethodHandle" ∧ (⟨"CensusWalk$Routes", "fromCrossing", "(LCensusWalk$Town;II)I"⟩ : MethodName).cls ≠ "java/lang/invoke/VarHandle" ∧ (parseMethodDescriptor (⟨"CensusWalk$Routes", "fromCrossing", "(LCensusWalk$Town;II)I"⟩ : MethodName).desc).map (fun d => d.parameters.length) = some 3 := by decide +kernel
def wp_X1_fromCrossing_22 (E : ms_En) (o : Nat) (a1 : Nat) (a2 : Int32) (a3 : Int32) (post : Int32 → ms_St → Prop)  (u : ms_St) (z0 : Int32) : Prop := post z0 u
set_option maxHeartbeats 4000000 in
set_option maxRecDepth 100000 in
theorem c_X1_fromCrossing_22 {p : Program} {l : Launch} {e : Env} {s : State} {m : MethodId} {args : Array Value} {below : List Frame} {meth : Method} {c : Code} {G : va_G} {cy : Nat → ClassId} {A : Nat → Prop} {L : Nat → Nat} {E : ms_En} (C : ms_Cx p m c cX1_fromCrossing 5 s args (Cond.code ⟨"CensusWalk$Routes", "fromCrossing", "(LCensusWalk$Town;II)I"⟩ prog_3_method_3_code 5 (some .int)) "CensusWalk$Routes" G cy A) (hr : meth.sig.returnType = (some .int)) (hlocks : meth.locks = false) (hE : ms_WT E) {o : Nat} {a1 : Nat} {a2 : Int32} {a3 : Int32} {post : Int32 → ms_St → Prop}  (ho : ms_is E o 1) (ha1 : ms_is E a1 7)  (u : ms_St) (z0 : Int32)  (h : wp_X1_fromCrossing_22 E o a1 a2 a3 post u z0) : ms_At p l e ({ frames := 3, cells := 0, slots := 0, locals := 69 } : Room) s m args below meth c 5 G cy A L 0 0 (ms_QI below args s G cy L E A post 0 0) E u 22 [] [.int z0] := by
  unfold wp_X1_fromCrossing_22 at h
  exact a_iret C dX1_fromCrossing_22 hr hlocks (Nat.le_of_ble_eq_true rfl) (Nat.le_of_ble_eq_true rfl) h
def wp_X1_fromCrossing (E : ms_En) (u : ms_St) (o : Nat) (a1 : Nat) (a2 : Int32) (a3 : Int32) (post : Int32 → ms_St → Prop) : Prop := wp_X1_reach E u o a1 a2 a3 (fun r4 u4 => (r4 < 1000000 → wp_X1_fromCrossing_22 E o a1 a2 a3 post u4 r4) ∧ (¬ r4 < 1000000 → wp_X1_fromCrossing_22 E o a1 a2 a3 post u4 (-1)))
set_option maxHeartbeats 4000000 in
set_option maxRecDepth 100000 in
theorem c_X1_fromCrossing (l : Launch) (G : va_G) (cy : Nat → ClassId) (L : Nat → Nat) (E : ms_En) (hE : ms_WT E) (u : ms_St) (o : Nat) (a1 : Nat) (a2 : Int32) (a3 : Int32) (ho : ms_is E o 1) (ha1 : ms_is E a1 7) (post : Int32 → ms_St → Prop) (h : wp_X1_fromCrossing E u o a1 a2 a3 post) : ms_MetI l ⟨"CensusWalk$Routes", "fromCrossing", "(LCensusWalk$Town;II)I"⟩ (Cond.code ⟨"CensusWalk$Routes", "fromCrossing", "(LCensusWalk$Town;II)I"⟩ prog_3_method_3_code 5 (some .int) :: lw_g) ({ frames := 3, cells := 0, slots := 0, locals := 69 } : Room) G cy L E [.ref (L o), .ref (L a1), .int a2, .int a3] u post 0 0 := by
  refine ms_enterI (lv := [(0, .ref (L o)), (1, .ref (L a1)), (2, .int a2), (3, .int a3)]) (by decide) (Nat.le_of_ble_eq_true rfl) rfl ?_
  intro p e s m args below meth c A C hr hlocks
  unfold wp_X1_fromCrossing at h
  refine a_aload_n C dX1_fromCrossing_0 rfl 0 rfl rfl ?_
  refine a_aload_n C dX1_fromCrossing_1 rfl 1 rfl rfl ?_
  refine a_iload_n C dX1_fromCrossing_2 rfl 2 rfl rfl ?_
  refine a_iload_n C dX1_fromCrossing_3 rfl 3 rfl rfl ?_
  refine a_callVI C (c_X1_reach l G cy L E hE u o a1 a2 a3 ho ha1 _ h) ho rfl (by decide) kw_3_34 kw_3_36 kp_7 kw_1_9 kw_3_37 rfl rfl pd_X1_reach ⟨(Nat.le_of_ble_eq_true rfl), (Nat.le_of_ble_eq_true rfl)⟩ dX1_fromCrossing_4 rfl (Nat.le_of_ble_eq_true rfl) ⟨(Nat.le_of_ble_eq_true rfl), (Nat.le_of_ble_eq_true rfl)⟩ rfl (fun r4 u4 h => ?_)
  refine a_istore (lv' := [(0, .ref (L o)), (1, .ref (L a1)), (2, .int a2), (3, .int a3), (4, .int r4)]) C dX1_fromCrossing_7 (by decide) [1, 2, 3, 4, 0] rfl rfl ?_
  refine a_iload C dX1_fromCrossing_9 4 rfl rfl ?_
  refine a_ldc (v := 1000000) C dX1_fromCrossing_11 kw_2_234 rfl ?_
  refine a_icmp_lt (tgt := 20) C dX1_fromCrossing_13 (by decide) rfl (fun hc => ?_) (fun hc => ?_)
  · replace h := h.1 hc
    refine a_iload C dX1_fromCrossing_20 4 rfl rfl ?_
    refine a_sub (lv' := []) [] rfl ?_
    exact c_X1_fromCrossing_22 C hr hlocks hE ho ha1  u4 r4  h
  · replace h := h.2 hc
    refine a_iconst (v := (-1)) C dX1_fromCrossing_16 (by decide) rfl ?_
    refine a_goto (tgt := 22) C dX1_fromCrossing_17 (by decide) ?_
    refine a_sub (lv' := []) [] rfl ?_
    exact c_X1_fromCrossing_22 C hr hlocks hE ho ha1  u4 (-1)  h

/-! CensusWalk$Routes.betweenHouses(LCensusWalk$Town;II)I -/
theorem pd_X1_betweenHouses : (⟨"CensusWalk$Routes", "betweenHouses", "(LCensusWalk$Town;II)I"⟩ : MethodName).cls = "CensusWalk$Routes" ∧ (⟨"CensusWalk$Routes", "betweenHouses", "(LCensusWalk$Town;II)I"⟩ : MethodName).cls ≠ "java/lang/invoke/MethodHandle" ∧ (⟨"CensusWalk$Routes", "betweenHouses", "(LCensusWalk$Town;II)I"⟩ : MethodName).cls ≠ "java/lang/invoke/VarHandle" ∧ (parseMethodDescriptor (⟨"CensusWalk$Routes", "betweenHouses", "(LCensusWalk$Town;II)I"⟩ : MethodName).desc).map (fun d => d.parameters.length) = some 3 := by decide +kernel
def wp_X1_betweenHouses_31 (E : ms_En) (o : Nat) (a1 : Nat) (a2 : Int32) (a3 : Int32) (post : Int32 → ms_St → Prop)  (u : ms_St)  : Prop := post (-1) u
set_option maxHeartbeats 4000000 in
set_option maxRecDepth 100000 in
theorem c_X1_betweenHouses_31 {p : Program} {l : Launch} {e : Env} {s : State} {m : MethodId} {args : Array Value} {below : List Frame} {meth : Method} {c : Code} {G : va_G} {cy : Nat → ClassId} {A : Nat → Prop} {L : Nat → Nat} {E : ms_En} (C : ms_Cx p m c cX1_betweenHouses 9 s args (Cond.code ⟨"CensusWalk$Routes", "betweenHouses", "(LCensusWalk$Town;II)I"⟩ prog_3_method_4_code 9 (some .int)) "CensusWalk$Routes" G cy A) (hr : meth.sig.returnType = (some .int)) (hlocks : meth.locks = false) (hE : ms_WT E) {o : Nat} {a1 : Nat} {a2 : Int32} {a3 : Int32} {post : Int32 → ms_St → Prop}  (ho : ms_is E o 1) (ha1 : ms_is E a1 7)  (u : ms_St)   (h : wp_X1_betweenHouses_31 E o a1 a2 a3 post u ) : ms_At p l e ({ frames := 3, cells := 0, slots := 0, locals := 69 } : Room) s m args below meth c 9 G cy A L 0 0 (ms_QI below args s G cy L E A post 0 0) E u 31 [] [] := by
  unfold wp_X1_betweenHouses_31 at h
  refine a_iconst (v := (-1)) C dX1_betweenHouses_31 (by decide) rfl ?_
  exact a_iret C dX1_betweenHouses_32 hr hlocks (Nat.le_of_ble_eq_true rfl) (Nat.le_of_ble_eq_true rfl) h
def wp_X1_betweenHouses_67 (E : ms_En) (o : Nat) (a1 : Nat) (a2 : Int32) (a3 : Int32) (post : Int32 → ms_St → Prop)  (u : ms_St)  : Prop := post (-1) u
set_option maxHeartbeats 4000000 in
set_option maxRecDepth 100000 in
theorem c_X1_betweenHouses_67 {p : Program} {l : Launch} {e : Env} {s : State} {m : MethodId} {args : Array Value} {below : List Frame} {meth : Method} {c : Code} {G : va_G} {cy : Nat → ClassId} {A : Nat → Prop} {L : Nat → Nat} {E : ms_En} (C : ms_Cx p m c cX1_betweenHouses 9 s args (Cond.code ⟨"CensusWalk$Routes", "betweenHouses", "(LCensusWalk$Town;II)I"⟩ prog_3_method_4_code 9 (some .int)) "CensusWalk$Routes" G cy A) (hr : meth.sig.returnType = (some .int)) (hlocks : meth.locks = false) (hE : ms_WT E) {o : Nat} {a1 : Nat} {a2 : Int32} {a3 : Int32} {post : Int32 → ms_St → Prop}  (ho : ms_is E o 1) (ha1 : ms_is E a1 7)  (u : ms_St)   (h : wp_X1_betweenHouses_67 E o a1 a2 a3 post u ) : ms_At p l e ({ frames := 3, cells := 0, slots := 0, locals := 69 } : Room) s m args below meth c 9 G cy A L 0 0 (ms_QI below args s G cy L E A post 0 0) E u 67 [] [] := by
  unfold wp_X1_betweenHouses_67 at h
  refine a_iconst (v := (-1)) C dX1_betweenHouses_67 (by decide) rfl ?_
  exact a_iret C dX1_betweenHouses_68 hr hlocks (Nat.le_of_ble_eq_true rfl) (Nat.le_of_ble_eq_true rfl) h
def wp_X1_betweenHouses_216 (E : ms_En) (o : Nat) (a1 : Nat) (a2 : Int32) (a3 : Int32) (post : Int32 → ms_St → Prop)  (u : ms_St) (z0 : Int32) : Prop := post z0 u
set_option maxHeartbeats 4000000 in
set_option maxRecDepth 100000 in
theorem c_X1_betweenHouses_216 {p : Program} {l : Launch} {e : Env} {s : State} {m : MethodId} {args : Array Value} {below : List Frame} {meth : Method} {c : Code} {G : va_G} {cy : Nat → ClassId} {A : Nat → Prop} {L : Nat → Nat} {E : ms_En} (C : ms_Cx p m c cX1_betweenHouses 9 s args (Cond.code ⟨"CensusWalk$Routes", "betweenHouses", "(LCensusWalk$Town;II)I"⟩ prog_3_method_4_code 9 (some .int)) "CensusWalk$Routes" G cy A) (hr : meth.sig.returnType = (some .int)) (hlocks : meth.locks = false) (hE : ms_WT E) {o : Nat} {a1 : Nat} {a2 : Int32} {a3 : Int32} {post : Int32 → ms_St → Prop}  (ho : ms_is E o 1) (ha1 : ms_is E a1 7)  (u : ms_St) (z0 : Int32)  (h : wp_X1_betweenHouses_216 E o a1 a2 a3 post u z0) : ms_At p l e ({ frames := 3, cells := 0, slots := 0, locals := 69 } : Room) s m args below meth c 9 G cy A L 0 0 (ms_QI below args s G cy L E A post 0 0) E u 216 [] [.int z0] := by
  unfold wp_X1_betweenHouses_216 at h
  exact a_iret C dX1_betweenHouses_216 hr hlocks (Nat.le_of_ble_eq_true rfl) (Nat.le_of_ble_eq_true rfl) h
def wp_X1_betweenHouses_203 (E : ms_En) (o : Nat) (a1 : Nat) (a2 : Int32) (a3 : Int32) (post : Int32 → ms_St → Prop)  (u : ms_St) (x8 : Int32) : Prop := (x8 < 1000000 → wp_X1_betweenHouses_216 E o a1 a2 a3 post u x8) ∧ (¬ x8 < 1000000 → wp_X1_betweenHouses_216 E o a1 a2 a3 post u (-1))
set_option maxHeartbeats 4000000 in
set_option maxRecDepth 100000 in
theorem c_X1_betweenHouses_203 {p : Program} {l : Launch} {e : Env} {s : State} {m : MethodId} {args : Array Value} {below : List Frame} {meth : Method} {c : Code} {G : va_G} {cy : Nat → ClassId} {A : Nat → Prop} {L : Nat → Nat} {E : ms_En} (C : ms_Cx p m c cX1_betweenHouses 9 s args (Cond.code ⟨"CensusWalk$Routes", "betweenHouses", "(LCensusWalk$Town;II)I"⟩ prog_3_method_4_code 9 (some .int)) "CensusWalk$Routes" G cy A) (hr : meth.sig.returnType = (some .int)) (hlocks : meth.locks = false) (hE : ms_WT E) {o : Nat} {a1 : Nat} {a2 : Int32} {a3 : Int32} {post : Int32 → ms_St → Prop}  (ho : ms_is E o 1) (ha1 : ms_is E a1 7)  (u : ms_St) (x8 : Int32)  (h : wp_X1_betweenHouses_203 E o a1 a2 a3 post u x8) : ms_At p l e ({ frames := 3, cells := 0, slots := 0, locals := 69 } : Room) s m args below meth c 9 G cy A L 0 0 (ms_QI below args s G cy L E A post 0 0) E u 203 [(8, .int x8)] [] := by
  unfold wp_X1_betweenHouses_203 at h
  refine a_iload C dX1_betweenHouses_203 0 rfl rfl ?_
  refine a_ldc (v := 1000000) C dX1_betweenHouses_205 kw_2_234 rfl ?_
  refine a_icmp_lt (tgt := 214) C dX1_betweenHouses_207 (by decide) rfl (fun hc => ?_) (fun hc => ?_)
  · replace h := h.1 hc
    refine a_iload C dX1_betweenHouses_214 0 rfl rfl ?_
    refine a_sub (lv' := []) [] rfl ?_
    exact c_X1_betweenHouses_216 C hr hlocks hE ho ha1  u x8  h
  · replace h := h.2 hc
    refine a_iconst (v := (-1)) C dX1_betweenHouses_210 (by decide) rfl ?_
    refine a_goto (tgt := 216) C dX1_betweenHouses_211 (by decide) ?_
    refine a_sub (lv' := []) [] rfl ?_
    exact c_X1_betweenHouses_216 C hr hlocks hE ho ha1  u (-1)  h
def wp_X1_betweenHouses_200 (E : ms_En) (o : Nat) (a1 : Nat) (a2 : Int32) (a3 : Int32) (post : Int32 → ms_St → Prop)  (u : ms_St) (z0 : Int32) (z1 : Int32) : Prop := ∀ v201 : Int32, v201 = (z1 + z0) → (wp_X1_betweenHouses_203 E o a1 a2 a3 post u v201)
set_option maxHeartbeats 4000000 in
set_option maxRecDepth 100000 in
theorem c_X1_betweenHouses_200 {p : Program} {l : Launch} {e : Env} {s : State} {m : MethodId} {args : Array Value} {below : List Frame} {meth : Method} {c : Code} {G : va_G} {cy : Nat → ClassId} {A : Nat → Prop} {L : Nat → Nat} {E : ms_En} (C : ms_Cx p m c cX1_betweenHouses 9 s args (Cond.code ⟨"CensusWalk$Routes", "betweenHouses", "(LCensusWalk$Town;II)I"⟩ prog_3_method_4_code 9 (some .int)) "CensusWalk$Routes" G cy A) (hr : meth.sig.returnType = (some .int)) (hlocks : meth.locks = false) (hE : ms_WT E) {o : Nat} {a1 : Nat} {a2 : Int32} {a3 : Int32} {post : Int32 → ms_St → Prop}  (ho : ms_is E o 1) (ha1 : ms_is E a1 7)  (u : ms_St) (z0 : Int32) (z1 : Int32)  (h : wp_X1_betweenHouses_200 E o a1 a2 a3 post u z0 z1) : ms_At p l e ({ frames := 3, cells := 0, slots := 0, locals := 69 } : Room) s m args below meth c 9 G cy A L 0 0 (ms_QI below args s G cy L E A post 0 0) E u 200 [] [.int z0, .int z1] := by
  unfold wp_X1_betweenHouses_200 at h
  refine a_iadd C dX1_betweenHouses_200 rfl ?_
  refine a_nmI (fun v201 e201 => ?_)
  replace h := h v201 e201
  refine a_istore (lv' := [(8, .int v201)]) C dX1_betweenHouses_201 (by decide) [0] rfl rfl ?_
  exact c_X1_betweenHouses_203 C hr hlocks hE ho ha1  u v201  h
def wp_X1_betweenHouses (E : ms_En) (u : ms_St) (o : Nat) (a1 : Nat) (a2 : Int32) (a3 : Int32) (post : Int32 → ms_St → Prop) : Prop := (a2 = a3 → post 0 u) ∧ (¬ a2 = a3 → wp_X0_has E u (ms_at E a1 4) a2 (fun r16 u16 => (r16 = 0 → wp_X1_betweenHouses_31 E o a1 a2 a3 post u16) ∧ (¬ r16 = 0 → wp_X0_has E u16 (ms_at E a1 4) a3 (fun r25 u25 => (r25 = 0 → wp_X1_betweenHouses_31 E o a1 a2 a3 post u25) ∧ (¬ r25 = 0 → vp_in a2 16 ∧ (∀ v40 : Int32, v40 = (ms_I u25 (ms_at E (ms_at E a1 4) 1) (Int32.toNatClampNeg a2)) → (wp_X5_has E u25 (ms_at E a1 3) v40 (fun r48 u48 => (r48 = 0 → wp_X1_betweenHouses_67 E o a1 a2 a3 post u48) ∧ (¬ r48 = 0 → vp_in v40 12 ∧ (((ms_I u48 (ms_at E (ms_at E a1 3) 4) (Int32.toNatClampNeg v40)) = 0 → wp_X1_betweenHouses_67 E o a1 a2 a3 post u48) ∧ (¬ (ms_I u48 (ms_at E (ms_at E a1 3) 4) (Int32.toNatClampNeg v40)) = 0 → vp_in a2 16 ∧ (∀ v76 : Int32, v76 = (ms_I u48 (ms_at E (ms_at E a1 4) 2) (Int32.toNatClampNeg a2)) → (vp_in v40 12 ∧ (∀ v91 : Int32, v91 = ((ms_I u48 (ms_at E (ms_at E a1 3) 3) (Int32.toNatClampNeg v40)) - v76) → (vp_in v40 12 ∧ (wp_X1_reach E u48 o a1 (ms_I u48 (ms_at E (ms_at E a1 3) 1) (Int32.toNatClampNeg v40)) a3 (fun r108 u108 => vp_in v40 12 ∧ (wp_X1_reach E u108 o a1 (ms_I u108 (ms_at E (ms_at E a1 3) 2) (Int32.toNatClampNeg v40)) a3 (fun r127 u127 => ∀ v134 : Int32, v134 = (if (v91 + r127) < (v76 + r108) then (v91 + r127) else (v76 + r108)) → (vp_in a3 16 ∧ ((v40 = (ms_I u127 (ms_at E (ms_at E a1 4) 1) (Int32.toNatClampNeg a3)) → vp_in a2 16 ∧ (vp_in a3 16 ∧ (∀ v171 : Int32, v171 = (if (if 0 ≤ ((ms_I u127 (ms_at E (ms_at E a1 4) 2) (Int32.toNatClampNeg a2)) - (ms_I u127 (ms_at E (ms_at E a1 4) 2) (Int32.toNatClampNeg a3))) then ((ms_I u127 (ms_at E (ms_at E a1 4) 2) (Int32.toNatClampNeg a2)) - (ms_I u127 (ms_at E (ms_at E a1 4) 2) (Int32.toNatClampNeg a3))) else 0 - ((ms_I u127 (ms_at E (ms_at E a1 4) 2) (Int32.toNatClampNeg a2)) - (ms_I u127 (ms_at E (ms_at E a1 4) 2) (Int32.toNatClampNeg a3)))) < v134 then (if 0 ≤ ((ms_I u127 (ms_at E (ms_at E a1 4) 2) (Int32.toNatClampNeg a2)) - (ms_I u127 (ms_at E (ms_at E a1 4) 2) (Int32.toNatClampNeg a3))) then ((ms_I u127 (ms_at E (ms_at E a1 4) 2) (Int32.toNatClampNeg a2)) - (ms_I u127 (ms_at E (ms_at E a1 4) 2) (Int32.toNatClampNeg a3))) else 0 - ((ms_I u127 (ms_at E (ms_at E a1 4) 2) (Int32.toNatClampNeg a2)) - (ms_I u127 (ms_at E (ms_at E a1 4) 2) (Int32.toNatClampNeg a3)))) else v134) → (vp_in a2 16 ∧ (vp_in a3 16 ∧ (((ms_I u127 (ms_at E (ms_at E a1 4) 3) (Int32.toNatClampNeg a2)) = (ms_I u127 (ms_at E (ms_at E a1 4) 3) (Int32.toNatClampNeg a3)) → wp_X1_betweenHouses_200 E o a1 a2 a3 post u127 0 v171) ∧ (¬ (ms_I u127 (ms_at E (ms_at E a1 4) 3) (Int32.toNatClampNeg a2)) = (ms_I u127 (ms_at E (ms_at E a1 4) 3) (Int32.toNatClampNeg a3)) → wp_X1_betweenHouses_200 E o a1 a2 a3 post u127 (ms_I u127 a1 1) v171))))))) ∧ (¬ v40 = (ms_I u127 (ms_at E (ms_at E a1 4) 1) (Int32.toNatClampNeg a3)) → wp_X1_betweenHouses_203 E o a1 a2 a3 post u127 v134))))))))))))))))))))))
set_option maxHeartbeats 4000000 in
set_option maxRecDepth 100000 in
theorem c_X1_betweenHouses (l : Launch) (G : va_G) (cy : Nat → ClassId) (L : Nat → Nat) (E : ms_En) (hE : ms_WT E) (u : ms_St) (o : Nat) (a1 : Nat) (a2 : Int32) (a3 : Int32) (ho : ms_is E o 1) (ha1 : ms_is E a1 7) (post : Int32 → ms_St → Prop) (h : wp_X1_betweenHouses E u o a1 a2 a3 post) : ms_MetI l ⟨"CensusWalk$Routes", "betweenHouses", "(LCensusWalk$Town;II)I"⟩ (Cond.code ⟨"CensusWalk$Routes", "betweenHouses", "(LCensusWalk$Town;II)I"⟩ prog_3_method_4_code 9 (some .int) :: lw_g) ({ frames := 3, cells := 0, slots := 0, locals := 69 } : Room) G cy L E [.ref (L o), .ref (L a1), .int a2, .int a3] u post 0 0 := by
  refine ms_enterI (lv := [(0, .ref (L o)), (1, .ref (L a1)), (2, .int a2), (3, .int a3)]) (by decide) (Nat.le_of_ble_eq_true rfl) rfl ?_
  intro p e s m args below meth c A C hr hlocks
  unfold wp_X1_betweenHouses at h
  refine a_iload_n C dX1_betweenHouses_0 rfl 2 rfl rfl ?_
  refine a_iload_n C dX1_betweenHouses_1 rfl 3 rfl rfl ?_
  refine a_icmp_ne (tgt := 7) C dX1_betweenHouses_2 (by decide) rfl (fun hc => ?_) (fun hc => ?_)
  · replace h := h.2 hc
    refine a_aload_n C dX1_betweenHouses_7 rfl 1 rfl rfl ?_
    refine g_7_4 C hE dX1_betweenHouses_8 ha1 kw_1_182 rfl ?_
    have k8 : ms_is E (ms_at E a1 4) 0 := ms_wt hE ha1 rfl (by decide)
    refine a_astore (lv' := [(0, .ref (L o)), (1, .ref (L a1)), (2, .int a2), (3, .int a3), (4, .ref (L (ms_at E a1 4)))]) C dX1_betweenHouses_11 (by decide) [1, 2, 3, 4, 0] rfl rfl ?_
    refine a_aload C dX1_betweenHouses_13 4 rfl rfl ?_
    refine a_iload_n C dX1_betweenHouses_15 rfl 2 rfl rfl ?_
    refine a_callVI C (c_X0_has l G cy L E hE u (ms_at E a1 4) a2 k8 _ h) k8 rfl (by decide) kw_3_38 kw_3_39 kw_3_40 kw_1_4 kw_3_41 rfl rfl pd_X0_has ⟨(Nat.le_of_ble_eq_true rfl), (Nat.le_of_ble_eq_true rfl)⟩ dX1_betweenHouses_16 rfl (Nat.le_of_ble_eq_true rfl) ⟨(Nat.le_of_ble_eq_true rfl), (Nat.le_of_ble_eq_true rfl)⟩ rfl (fun r16 u16 h => ?_)
    refine a_if_eq (tgt := 31) C dX1_betweenHouses_19 (by decide) rfl (fun hc => ?_) (fun hc => ?_)
    · replace h := h.1 hc
      refine a_sub (lv' := []) [] rfl ?_
      exact c_X1_betweenHouses_31 C hr hlocks hE ho ha1  u16  h
    · replace h := h.2 hc
      refine a_aload C dX1_betweenHouses_22 4 rfl rfl ?_
      refine a_iload_n C dX1_betweenHouses_24 rfl 3 rfl rfl ?_
      refine a_callVI C (c_X0_has l G cy L E hE u16 (ms_at E a1 4) a3 k8 _ h) k8 rfl (by decide) kw_3_38 kw_3_39 kw_3_40 kw_1_4 kw_3_41 rfl rfl pd_X0_has ⟨(Nat.le_of_ble_eq_true rfl), (Nat.le_of_ble_eq_true rfl)⟩ dX1_betweenHouses_25 rfl (Nat.le_of_ble_eq_true rfl) ⟨(Nat.le_of_ble_eq_true rfl), (Nat.le_of_ble_eq_true rfl)⟩ rfl (fun r25 u25 h => ?_)
      refine a_if_ne (tgt := 33) C dX1_betweenHouses_28 (by decide) rfl (fun hc => ?_) (fun hc => ?_)
      · replace h := h.2 hc
        refine a_aload C dX1_betweenHouses_33 4 rfl rfl ?_
        refine g_0_1 C hE dX1_betweenHouses_35 k8 kw_1_88 rfl ?_
        have k35 : ms_is E (ms_at E (ms_at E a1 4) 1) 13 := ms_wt hE k8 rfl (by decide)
        have n35 : ms_N E (ms_at E (ms_at E a1 4) 1) = 16 := ms_wl hE k8 (by decide) (by decide) rfl
        refine a_iload_n C dX1_betweenHouses_38 rfl 2 rfl rfl ?_
        obtain ⟨q39, h⟩ := h
        refine a_iald C dX1_betweenHouses_39 k35 n35 q39 rfl ?_
        refine a_nmI (fun v40 e40 => ?_)
        replace h := h v40 e40
        refine a_istore (lv' := [(0, .ref (L o)), (1, .ref (L a1)), (2, .int a2), (3, .int a3), (4, .ref (L (ms_at E a1 4))), (5, .int v40)]) C dX1_betweenHouses_40 (by decide) [1, 2, 3, 4, 5, 0] rfl rfl ?_
        refine a_aload_n C dX1_betweenHouses_42 rfl 1 rfl rfl ?_
        refine g_7_3 C hE dX1_betweenHouses_43 ha1 kw_1_176 rfl ?_
        have k43 : ms_is E (ms_at E a1 3) 5 := ms_wt hE ha1 rfl (by decide)
        refine a_iload C dX1_betweenHouses_46 5 rfl rfl ?_
        refine a_callVI C (c_X5_has l G cy L E hE u25 (ms_at E a1 3) v40 k43 _ h) k43 rfl (by decide) kw_3_42 kw_3_43 kw_3_44 kw_1_3 kw_3_45 rfl rfl pd_X5_has ⟨(Nat.le_of_ble_eq_true rfl), (Nat.le_of_ble_eq_true rfl)⟩ dX1_betweenHouses_48 rfl (Nat.le_of_ble_eq_true rfl) ⟨(Nat.le_of_ble_eq_true rfl), (Nat.le_of_ble_eq_true rfl)⟩ rfl (fun r48 u48 h => ?_)
        refine a_if_eq (tgt := 67) C dX1_betweenHouses_51 (by decide) rfl (fun hc => ?_) (fun hc => ?_)
        · replace h := h.1 hc
          refine a_sub (lv' := []) [] rfl ?_
          exact c_X1_betweenHouses_67 C hr hlocks hE ho ha1  u48  h
        · replace h := h.2 hc
          refine a_aload_n C dX1_betweenHouses_54 rfl 1 rfl rfl ?_
          refine g_7_3 C hE dX1_betweenHouses_55 ha1 kw_1_176 rfl ?_
          refine g_5_4 C hE dX1_betweenHouses_58 k43 kw_1_60 rfl ?_
          have k58 : ms_is E (ms_at E (ms_at E a1 3) 4) 15 := ms_wt hE k43 rfl (by decide)
          have n58 : ms_N E (ms_at E (ms_at E a1 3) 4) = 12 := ms_wl hE k43 (by decide) (by decide) rfl
          refine a_iload C dX1_betweenHouses_61 5 rfl rfl ?_
          obtain ⟨q63, h⟩ := h
          refine a_zald C dX1_betweenHouses_63 k58 n58 q63 rfl ?_
          refine a_if_ne (tgt := 69) C dX1_betweenHouses_64 (by decide) rfl (fun hc => ?_) (fun hc => ?_)
          · replace h := h.2 hc
            refine a_aload C dX1_betweenHouses_69 4 rfl rfl ?_
            refine g_0_2 C hE dX1_betweenHouses_71 k8 kw_1_92 rfl ?_
            have k71 : ms_is E (ms_at E (ms_at E a1 4) 2) 13 := ms_wt hE k8 rfl (by decide)
            have n71 : ms_N E (ms_at E (ms_at E a1 4) 2) = 16 := ms_wl hE k8 (by decide) (by decide) rfl
            refine a_iload_n C dX1_betweenHouses_74 rfl 2 rfl rfl ?_
            obtain ⟨q75, h⟩ := h
            refine a_iald C dX1_betweenHouses_75 k71 n71 q75 rfl ?_
            refine a_nmI (fun v76 e76 => ?_)
            replace h := h v76 e76
            refine a_istore (lv' := [(0, .ref (L o)), (1, .ref (L a1)), (2, .int a2), (3, .int a3), (4, .ref (L (ms_at E a1 4))), (5, .int v40), (6, .int v76)]) C dX1_betweenHouses_76 (by decide) [1, 2, 3, 4, 5, 6, 0] rfl rfl ?_
            refine a_aload_n C dX1_betweenHouses_78 rfl 1 rfl rfl ?_
            refine g_7_3 C hE dX1_betweenHouses_79 ha1 kw_1_176 rfl ?_
            refine g_5_3 C hE dX1_betweenHouses_82 k43 kw_1_57 rfl ?_
            have k82 : ms_is E (ms_at E (ms_at E a1 3) 3) 13 := ms_wt hE k43 rfl (by decide)
            have n82 : ms_N E (ms_at E (ms_at E a1 3) 3) = 12 := ms_wl hE k43 (by decide) (by decide) rfl
            refine a_iload C dX1_betweenHouses_85 5 rfl rfl ?_
            obtain ⟨q87, h⟩ := h
            refine a_iald C dX1_betweenHouses_87 k82 n82 q87 rfl ?_
            refine a_iload C dX1_betweenHouses_88 6 rfl rfl ?_
            refine a_isub C dX1_betweenHouses_90 rfl ?_
            refine a_nmI (fun v91 e91 => ?_)
            replace h := h v91 e91
            refine a_istore (lv' := [(0, .ref (L o)), (1, .ref (L a1)), (2, .int a2), (3, .int a3), (4, .ref (L (ms_at E a1 4))), (5, .int v40), (6, .int v76), (7, .int v91)]) C dX1_betweenHouses_91 (by decide) [1, 2, 3, 4, 5, 6, 7, 0] rfl rfl ?_
            refine a_iload C dX1_betweenHouses_93 6 rfl rfl ?_
            refine a_aload_n C dX1_betweenHouses_95 rfl 0 rfl rfl ?_
            refine a_aload_n C dX1_betweenHouses_96 rfl 1 rfl rfl ?_
            refine a_aload_n C dX1_betweenHouses_97 rfl 1 rfl rfl ?_
            refine g_7_3 C hE dX1_betweenHouses_98 ha1 kw_1_176 rfl ?_
            refine g_5_1 C hE dX1_betweenHouses_101 k43 kw_1_53 rfl ?_
            have k101 : ms_is E (ms_at E (ms_at E a1 3) 1) 13 := ms_wt hE k43 rfl (by decide)
            have n101 : ms_N E (ms_at E (ms_at E a1 3) 1) = 12 := ms_wl hE k43 (by decide) (by decide) rfl
            refine a_iload C dX1_betweenHouses_104 5 rfl rfl ?_
            obtain ⟨q106, h⟩ := h
            refine a_iald C dX1_betweenHouses_106 k101 n101 q106 rfl ?_
            refine a_iload_n C dX1_betweenHouses_107 rfl 3 rfl rfl ?_
            refine a_callVI C (c_X1_reach l G cy L E hE u48 o a1 (ms_I u48 (ms_at E (ms_at E a1 3) 1) (Int32.toNatClampNeg v40)) a3 ho ha1 _ h) ho rfl (by decide) kw_3_34 kw_3_36 kp_7 kw_1_9 kw_3_37 rfl rfl pd_X1_reach ⟨(Nat.le_of_ble_eq_true rfl), (Nat.le_of_ble_eq_true rfl)⟩ dX1_betweenHouses_108 rfl (Nat.le_of_ble_eq_true rfl) ⟨(Nat.le_of_ble_eq_true rfl), (Nat.le_of_ble_eq_true rfl)⟩ rfl (fun r108 u108 h => ?_)
            refine a_iadd C dX1_betweenHouses_111 rfl ?_
            refine a_iload C dX1_betweenHouses_112 7 rfl rfl ?_
            refine a_aload_n C dX1_betweenHouses_114 rfl 0 rfl rfl ?_
            refine a_aload_n C dX1_betweenHouses_115 rfl 1 rfl rfl ?_
            refine a_aload_n C dX1_betweenHouses_116 rfl 1 rfl rfl ?_
            refine g_7_3 C hE dX1_betweenHouses_117 ha1 kw_1_176 rfl ?_
            refine g_5_2 C hE dX1_betweenHouses_120 k43 kw_1_55 rfl ?_
            have k120 : ms_is E (ms_at E (ms_at E a1 3) 2) 13 := ms_wt hE k43 rfl (by decide)
            have n120 : ms_N E (ms_at E (ms_at E a1 3) 2) = 12 := ms_wl hE k43 (by decide) (by decide) rfl
            refine a_iload C dX1_betweenHouses_123 5 rfl rfl ?_
            obtain ⟨q125, h⟩ := h
            refine a_iald C dX1_betweenHouses_125 k120 n120 q125 rfl ?_
            refine a_iload_n C dX1_betweenHouses_126 rfl 3 rfl rfl ?_
            refine a_callVI C (c_X1_reach l G cy L E hE u108 o a1 (ms_I u108 (ms_at E (ms_at E a1 3) 2) (Int32.toNatClampNeg v40)) a3 ho ha1 _ h) ho rfl (by decide) kw_3_34 kw_3_36 kp_7 kw_1_9 kw_3_37 rfl rfl pd_X1_reach ⟨(Nat.le_of_ble_eq_true rfl), (Nat.le_of_ble_eq_true rfl)⟩ dX1_betweenHouses_127 rfl (Nat.le_of_ble_eq_true rfl) ⟨(Nat.le_of_ble_eq_true rfl), (Nat.le_of_ble_eq_true rfl)⟩ rfl (fun r127 u127 h => ?_)
            refine a_iadd C dX1_betweenHouses_130 rfl ?_
            refine a_mmin C dX1_betweenHouses_131 kw_3_46 kw_3_47 kw_1_17 kw_3_48 (Nat.le_of_ble_eq_true rfl) (Nat.le_of_ble_eq_true rfl) (Nat.le_of_ble_eq_true rfl) (Nat.le_of_ble_eq_true rfl) rfl ?_
            refine a_nmI (fun v134 e134 => ?_)
            replace h := h v134 e134
            refine a_istore (lv' := [(0, .ref (L o)), (1, .ref (L a1)), (2, .int a2), (3, .int a3), (4, .ref (L (ms_at E a1 4))), (5, .int v40), (6, .int v76), (7, .int v91), (8, .int v134)]) C dX1_betweenHouses_134 (by decide) [1, 2, 3, 4, 5, 6, 7, 8, 0] rfl rfl ?_
            refine a_iload C dX1_betweenHouses_136 5 rfl rfl ?_
            refine a_aload C dX1_betweenHouses_138 4 rfl rfl ?_
            refine g_0_1 C hE dX1_betweenHouses_140 k8 kw_1_88 rfl ?_
            refine a_iload_n C dX1_betweenHouses_143 rfl 3 rfl rfl ?_
            obtain ⟨q144, h⟩ := h
            refine a_iald C dX1_betweenHouses_144 k35 n35 q144 rfl ?_
            refine a_icmp_ne (tgt := 203) C dX1_betweenHouses_145 (by decide) rfl (fun hc => ?_) (fun hc => ?_)
            · replace h := h.2 hc
              refine a_sub (lv' := [(8, .int v134)]) [8] rfl ?_
              exact c_X1_betweenHouses_203 C hr hlocks hE ho ha1  u127 v134  h
            · replace h := h.1 hc
              refine a_iload C dX1_betweenHouses_148 8 rfl rfl ?_
              refine a_aload C dX1_betweenHouses_150 4 rfl rfl ?_
              refine g_0_2 C hE dX1_betweenHouses_152 k8 kw_1_92 rfl ?_
              refine a_iload_n C dX1_betweenHouses_155 rfl 2 rfl rfl ?_
              obtain ⟨q156, h⟩ := h
              refine a_iald C dX1_betweenHouses_156 k71 n71 q156 rfl ?_
              refine a_aload C dX1_betweenHouses_157 4 rfl rfl ?_
              refine g_0_2 C hE dX1_betweenHouses_159 k8 kw_1_92 rfl ?_
              refine a_iload_n C dX1_betweenHouses_162 rfl 3 rfl rfl ?_
              obtain ⟨q163, h⟩ := h
              refine a_iald C dX1_betweenHouses_163 k71 n71 q163 rfl ?_
              refine a_isub C dX1_betweenHouses_164 rfl ?_
              refine a_mabs C dX1_betweenHouses_165 kw_3_53 kw_3_54 kw_1_17 kw_3_55 (Nat.le_of_ble_eq_true rfl) (Nat.le_of_ble_eq_true rfl) (Nat.le_of_ble_eq_true rfl) (Nat.le_of_ble_eq_true rfl) rfl ?_
              refine a_mmin C dX1_betweenHouses_168 kw_3_46 kw_3_47 kw_1_17 kw_3_48 (Nat.le_of_ble_eq_true rfl) (Nat.le_of_ble_eq_true rfl) (Nat.le_of_ble_eq_true rfl) (Nat.le_of_ble_eq_true rfl) rfl ?_
              refine a_nmI (fun v171 e171 => ?_)
              replace h := h v171 e171
              refine a_istore (lv' := [(0, .ref (L o)), (1, .ref (L a1)), (2, .int a2), (3, .int a3), (4, .ref (L (ms_at E a1 4))), (5, .int v40), (6, .int v76), (7, .int v91), (8, .int v171)]) C dX1_betweenHouses_171 (by decide) [1, 2, 3, 4, 5, 6, 7, 8, 0] rfl rfl ?_
              refine a_iload C dX1_betweenHouses_173 8 rfl rfl ?_
              refine a_aload C dX1_betweenHouses_175 4 rfl rfl ?_
              refine g_0_3 C hE dX1_betweenHouses_177 k8 kw_1_95 rfl ?_
              have k177 : ms_is E (ms_at E (ms_at E a1 4) 3) 13 := ms_wt hE k8 rfl (by decide)
              have n177 : ms_N E (ms_at E (ms_at E a1 4) 3) = 16 := ms_wl hE k8 (by decide) (by decide) rfl
              refine a_iload_n C dX1_betweenHouses_180 rfl 2 rfl rfl ?_
              obtain ⟨q181, h⟩ := h
              refine a_iald C dX1_betweenHouses_181 k177 n177 q181 rfl ?_
              refine a_aload C dX1_betweenHouses_182 4 rfl rfl ?_
              refine g_0_3 C hE dX1_betweenHouses_184 k8 kw_1_95 rfl ?_
              refine a_iload_n C dX1_betweenHouses_187 rfl 3 rfl rfl ?_
              obtain ⟨q188, h⟩ := h
              refine a_iald C dX1_betweenHouses_188 k177 n177 q188 rfl ?_
              refine a_icmp_eq (tgt := 199) C dX1_betweenHouses_189 (by decide) rfl (fun hc => ?_) (fun hc => ?_)
              · replace h := h.1 hc
                refine a_iconst (v := 0) C dX1_betweenHouses_199 (by decide) rfl ?_
                refine a_sub (lv' := []) [] rfl ?_
                exact c_X1_betweenHouses_200 C hr hlocks hE ho ha1  u127 0 v171  h
              · replace h := h.2 hc
                refine a_aload_n C dX1_betweenHouses_192 rfl 1 rfl rfl ?_
                refine g_7_1 C dX1_betweenHouses_193 ha1 kw_1_171 rfl ?_
                refine a_goto (tgt := 200) C dX1_betweenHouses_196 (by decide) ?_
                refine a_sub (lv' := []) [] rfl ?_
                exact c_X1_betweenHouses_200 C hr hlocks hE ho ha1  u127 (ms_I u127 a1 1) v171  h
          · replace h := h.1 hc
            refine a_sub (lv' := []) [] rfl ?_
            exact c_X1_betweenHouses_67 C hr hlocks hE ho ha1  u48  h
      · replace h := h.1 hc
        refine a_sub (lv' := []) [] rfl ?_
        exact c_X1_betweenHouses_31 C hr hlocks hE ho ha1  u25  h
  · replace h := h.1 hc
    refine a_iconst (v := 0) C dX1_betweenHouses_5 (by decide) rfl ?_
    exact a_iret C dX1_betweenHouses_6 hr hlocks (Nat.le_of_ble_eq_true rfl) (Nat.le_of_ble_eq_true rfl) h

/-! CensusWalk$Routes.measure(LCensusWalk$Town;)V -/
theorem pd_X1_measure : (⟨"CensusWalk$Routes", "measure", "(LCensusWalk$Town;)V"⟩ : MethodName).cls = "CensusWalk$Routes" ∧ (⟨"CensusWalk$Routes", "measure", "(LCensusWalk$Town;)V"⟩ : MethodName).cls ≠ "java/lang/invoke/MethodHandle" ∧ (⟨"CensusWalk$Routes", "measure", "(LCensusWalk$Town;)V"⟩ : MethodName).cls ≠ "java/lang/invoke/VarHandle" ∧ (parseMethodDescriptor (⟨"CensusWalk$Routes", "measure", "(LCensusWalk$Town;)V"⟩ : MethodName).desc).map (fun d => d.parameters.length) = some 1 := by decide +kernel
def wp_X1_measure_117 (E : ms_En) (o : Nat) (a1 : Nat) (post : ms_St → Prop) (k106 : ms_St → Int32 → Prop) : Nat → ms_St → Int32 → Int32 → Prop
  | 0 => fun _ _ _ => False
  | n + 1 => fun u x3 x4 => ((ms_I u a1 0) ≤ x4 → k106 u (x3 + 1)) ∧ (¬ (ms_I u a1 0) ≤ x4 → wp_X1_shortenAllFrom E u o x4 x3 (ms_I u a1 0) (fun u134 => wp_X1_measure_117 E o a1 post k106 n u134 x3 (x4 + 1)))
set_option maxHeartbeats 4000000 in
set_option maxRecDepth 100000 in
theorem c_X1_measure_117 {p : Program} {l : Launch} {e : Env} {s : State} {m : MethodId} {args : Array Value} {below : List Frame} {meth : Method} {c : Code} {G : va_G} {cy : Nat → ClassId} {A : Nat → Prop} {L : Nat → Nat} {E : ms_En} (C : ms_Cx p m c cX1_measure 5 s args (Cond.code ⟨"CensusWalk$Routes", "measure", "(LCensusWalk$Town;)V"⟩ prog_3_method_2_code 5 none) "CensusWalk$Routes" G cy A) (hr : meth.sig.returnType = none) (hlocks : meth.locks = false) (hE : ms_WT E) {o : Nat} {a1 : Nat} {post : ms_St → Prop} {k106 : ms_St → Int32 → Prop} (ho : ms_is E o 1) (ha1 : ms_is E a1 7) (hk106 : ∀ (u : ms_St) (x3 : Int32), k106 u x3 → ms_At p l e ({ frames := 3, cells := 0, slots := 0, locals := 68 } : Room) s m args below meth c 5 G cy A L 0 0 (ms_QV below args s G cy L E A post 0 0) E u 106 [(0, .ref (L o)), (1, .ref (L a1)), (3, .int x3)] []) : ∀ (n : Nat) (u : ms_St) (x3 : Int32) (x4 : Int32), wp_X1_measure_117 E o a1 post k106 n u x3 x4 → ms_At p l e ({ frames := 3, cells := 0, slots := 0, locals := 68 } : Room) s m args below meth c 5 G cy A L 0 0 (ms_QV below args s G cy L E A post 0 0) E u 117 [(0, .ref (L o)), (1, .ref (L a1)), (3, .int x3), (4, .int x4)] [] := by
  intro n
  induction n with
  | zero =>
    intro u x3 x4  h
    exact absurd h id
  | succ n ih =>
    intro u x3 x4  h
    unfold wp_X1_measure_117 at h
    refine a_iload C dX1_measure_117 3 rfl rfl ?_
    refine a_aload_n C dX1_measure_119 rfl 1 rfl rfl ?_
    refine g_7_0 C dX1_measure_120 ha1 kw_1_166 rfl ?_
    refine a_icmp_ge (tgt := 143) C dX1_measure_123 (by decide) rfl (fun hc => ?_) (fun hc => ?_)
    · replace h := h.1 hc
      refine a_iinc (lv' := [(0, .ref (L o)), (1, .ref (L a1)), (3, .int (x3 + 1)), (4, .int x4)]) (v := (x3 + 1)) C dX1_measure_143 2 rfl (congrArg (fun z => x3 + z) (by decide)) (by decide) [1, 2, 0, 3] rfl rfl ?_
      refine a_goto (tgt := 106) C dX1_measure_146 (by decide) ?_
      refine a_sub (lv' := [(0, .ref (L o)), (1, .ref (L a1)), (3, .int (x3 + 1))]) [0, 1, 2] rfl ?_
      exact hk106 u (x3 + 1)  h
    · replace h := h.2 hc
      refine a_aload_n C dX1_measure_126 rfl 0 rfl rfl ?_
      refine a_iload C dX1_measure_127 3 rfl rfl ?_
      refine a_iload_n C dX1_measure_129 rfl 2 rfl rfl ?_
      refine a_aload_n C dX1_measure_130 rfl 1 rfl rfl ?_
      refine g_7_0 C dX1_measure_131 ha1 kw_1_166 rfl ?_
      refine a_callVV C (c_X1_shortenAllFrom l G cy L E hE u o x4 x3 (ms_I u a1 0) ho _ h) ho rfl (by decide) kw_3_5 kw_3_7 kp_4 kw_1_9 kw_3_8 rfl rfl pd_X1_shortenAllFrom ⟨(Nat.le_of_ble_eq_true rfl), (Nat.le_of_ble_eq_true rfl)⟩ dX1_measure_134 rfl (Nat.le_of_ble_eq_true rfl) ⟨(Nat.le_of_ble_eq_true rfl), (Nat.le_of_ble_eq_true rfl)⟩ rfl (fun u134 h => ?_)
      refine a_iinc (lv' := [(0, .ref (L o)), (1, .ref (L a1)), (3, .int x3), (4, .int (x4 + 1))]) (v := (x4 + 1)) C dX1_measure_137 3 rfl (congrArg (fun z => x4 + z) (by decide)) (by decide) [1, 2, 3, 0] rfl rfl ?_
      refine a_goto (tgt := 117) C dX1_measure_140 (by decide) ?_
      exact ih u134 x3 (x4 + 1)  h
def wp_X1_measure_106 (E : ms_En) (o : Nat) (a1 : Nat) (post : ms_St → Prop)  : Nat → ms_St → Int32 → Prop
  | 0 => fun _ _ => False
  | n + 1 => fun u x3 => ((ms_I u a1 0) ≤ x3 → post u) ∧ (¬ (ms_I u a1 0) ≤ x3 → ∃ n117, wp_X1_measure_117 E o a1 post (wp_X1_measure_106 E o a1 post n) n117 u x3 0)
set_option maxHeartbeats 4000000 in
set_option maxRecDepth 100000 in
theorem c_X1_measure_106 {p : Program} {l : Launch} {e : Env} {s : State} {m : MethodId} {args : Array Value} {below : List Frame} {meth : Method} {c : Code} {G : va_G} {cy : Nat → ClassId} {A : Nat → Prop} {L : Nat → Nat} {E : ms_En} (C : ms_Cx p m c cX1_measure 5 s args (Cond.code ⟨"CensusWalk$Routes", "measure", "(LCensusWalk$Town;)V"⟩ prog_3_method_2_code 5 none) "CensusWalk$Routes" G cy A) (hr : meth.sig.returnType = none) (hlocks : meth.locks = false) (hE : ms_WT E) {o : Nat} {a1 : Nat} {post : ms_St → Prop}  (ho : ms_is E o 1) (ha1 : ms_is E a1 7)  : ∀ (n : Nat) (u : ms_St) (x3 : Int32), wp_X1_measure_106 E o a1 post n u x3 → ms_At p l e ({ frames := 3, cells := 0, slots := 0, locals := 68 } : Room) s m args below meth c 5 G cy A L 0 0 (ms_QV below args s G cy L E A post 0 0) E u 106 [(0, .ref (L o)), (1, .ref (L a1)), (3, .int x3)] [] := by
  intro n
  induction n with
  | zero =>
    intro u x3  h
    exact absurd h id
  | succ n ih =>
    intro u x3  h
    unfold wp_X1_measure_106 at h
    refine a_iload_n C dX1_measure_106 rfl 2 rfl rfl ?_
    refine a_aload_n C dX1_measure_107 rfl 1 rfl rfl ?_
    refine g_7_0 C dX1_measure_108 ha1 kw_1_166 rfl ?_
    refine a_icmp_ge (tgt := 149) C dX1_measure_111 (by decide) rfl (fun hc => ?_) (fun hc => ?_)
    · replace h := h.1 hc
      exact a_vret C dX1_measure_149 hr hlocks (Nat.le_of_ble_eq_true rfl) (Nat.le_of_ble_eq_true rfl) h
    · replace h := h.2 hc
      refine a_iconst (v := 0) C dX1_measure_114 (by decide) rfl ?_
      refine a_istore (lv' := [(0, .ref (L o)), (1, .ref (L a1)), (3, .int x3), (4, .int 0)]) C dX1_measure_115 (by decide) [1, 2, 3, 0] rfl rfl ?_
      obtain ⟨n9, h⟩ := h
      exact c_X1_measure_117 C hr hlocks hE ho ha1 ih n9 u x3 0  h
def wp_X1_measure_98 (E : ms_En) (o : Nat) (a1 : Nat) (post : ms_St → Prop) (k37 : ms_St → Nat → Int32 → Prop) (u : ms_St) (b2 : Nat) (x3 : Int32) : Prop := k37 u b2 (x3 + 1)
set_option maxHeartbeats 4000000 in
set_option maxRecDepth 100000 in
theorem c_X1_measure_98 {p : Program} {l : Launch} {e : Env} {s : State} {m : MethodId} {args : Array Value} {below : List Frame} {meth : Method} {c : Code} {G : va_G} {cy : Nat → ClassId} {A : Nat → Prop} {L : Nat → Nat} {E : ms_En} (C : ms_Cx p m c cX1_measure 5 s args (Cond.code ⟨"CensusWalk$Routes", "measure", "(LCensusWalk$Town;)V"⟩ prog_3_method_2_code 5 none) "CensusWalk$Routes" G cy A) (hr : meth.sig.returnType = none) (hlocks : meth.locks = false) (hE : ms_WT E) {o : Nat} {a1 : Nat} {post : ms_St → Prop} {k37 : ms_St → Nat → Int32 → Prop} (ho : ms_is E o 1) (ha1 : ms_is E a1 7) (hk37 : ∀ (u : ms_St) (b2 : Nat) (x3 : Int32), ms_is E b2 5 → k37 u b2 x3 → ms_At p l e ({ frames := 3, cells := 0, slots := 0, locals := 68 } : Room) s m args below meth c 5 G cy A L 0 0 (ms_QV below args s G cy L E A post 0 0) E u 37 [(0, .ref (L o)), (1, .ref (L a1)), (2, .ref (L b2)), (3, .int x3)] []) (u : ms_St) (b2 : Nat) (x3 : Int32) (k_b2 : ms_is E b2 5) (h : wp_X1_measure_98 E o a1 post k37 u b2 x3) : ms_At p l e ({ frames := 3, cells := 0, slots := 0, locals := 68 } : Room) s m args below meth c 5 G cy A L 0 0 (ms_QV below args s G cy L E A post 0 0) E u 98 [(0, .ref (L o)), (1, .ref (L a1)), (2, .ref (L b2)), (3, .int x3)] [] := by
  unfold wp_X1_measure_98 at h
  refine a_iinc (lv' := [(0, .ref (L o)), (1, .ref (L a1)), (2, .ref (L b2)), (3, .int (x3 + 1))]) (v := (x3 + 1)) C dX1_measure_98 3 rfl (congrArg (fun z => x3 + z) (by decide)) (by decide) [1, 2, 3, 0] rfl rfl ?_
  refine a_goto (tgt := 37) C dX1_measure_101 (by decide) ?_
  exact hk37 u b2 (x3 + 1) k_b2 h
def wp_X1_measure_37 (E : ms_En) (o : Nat) (a1 : Nat) (post : ms_St → Prop)  : Nat → ms_St → Nat → Int32 → Prop
  | 0 => fun _ _ _ => False
  | n + 1 => fun u b2 x3 => ((ms_I u b2 0) ≤ x3 → ∃ n106, wp_X1_measure_106 E o a1 post n106 u 0) ∧ (¬ (ms_I u b2 0) ≤ x3 → vp_in x3 12 ∧ (((ms_I u (ms_at E b2 4) (Int32.toNatClampNeg x3)) = 0 → wp_X1_measure_98 E o a1 post (wp_X1_measure_37 E o a1 post n) u b2 x3) ∧ (¬ (ms_I u (ms_at E b2 4) (Int32.toNatClampNeg x3)) = 0 → vp_in x3 12 ∧ (vp_in x3 12 ∧ (vp_in x3 12 ∧ (wp_X1_shorten E u o (ms_I u (ms_at E b2 1) (Int32.toNatClampNeg x3)) (ms_I u (ms_at E b2 2) (Int32.toNatClampNeg x3)) (ms_I u (ms_at E b2 3) (Int32.toNatClampNeg x3)) (fun u73 => vp_in x3 12 ∧ (vp_in x3 12 ∧ (vp_in x3 12 ∧ (wp_X1_shorten E u73 o (ms_I u73 (ms_at E b2 2) (Int32.toNatClampNeg x3)) (ms_I u73 (ms_at E b2 1) (Int32.toNatClampNeg x3)) (ms_I u73 (ms_at E b2 3) (Int32.toNatClampNeg x3)) (fun u95 => wp_X1_measure_98 E o a1 post (wp_X1_measure_37 E o a1 post n) u95 b2 x3)))))))))))
set_option maxHeartbeats 4000000 in
set_option maxRecDepth 100000 in
theorem c_X1_measure_37 {p : Program} {l : Launch} {e : Env} {s : State} {m : MethodId} {args : Array Value} {below : List Frame} {meth : Method} {c : Code} {G : va_G} {cy : Nat → ClassId} {A : Nat → Prop} {L : Nat → Nat} {E : ms_En} (C : ms_Cx p m c cX1_measure 5 s args (Cond.code ⟨"CensusWalk$Routes", "measure", "(LCensusWalk$Town;)V"⟩ prog_3_method_2_code 5 none) "CensusWalk$Routes" G cy A) (hr : meth.sig.returnType = none) (hlocks : meth.locks = false) (hE : ms_WT E) {o : Nat} {a1 : Nat} {post : ms_St → Prop}  (ho : ms_is E o 1) (ha1 : ms_is E a1 7)  : ∀ (n : Nat) (u : ms_St) (b2 : Nat) (x3 : Int32), ms_is E b2 5 → wp_X1_measure_37 E o a1 post n u b2 x3 → ms_At p l e ({ frames := 3, cells := 0, slots := 0, locals := 68 } : Room) s m args below meth c 5 G cy A L 0 0 (ms_QV below args s G cy L E A post 0 0) E u 37 [(0, .ref (L o)), (1, .ref (L a1)), (2, .ref (L b2)), (3, .int x3)] [] := by
  intro n
  induction n with
  | zero =>
    intro u b2 x3 k_b2 h
    exact absurd h id
  | succ n ih =>
    intro u b2 x3 k_b2 h
    unfold wp_X1_measure_37 at h
    refine a_iload_n C dX1_measure_37 rfl 3 rfl rfl ?_
    refine a_aload_n C dX1_measure_38 rfl 2 rfl rfl ?_
    refine g_5_0 C dX1_measure_39 k_b2 kw_1_49 rfl ?_
    refine a_icmp_ge (tgt := 104) C dX1_measure_42 (by decide) rfl (fun hc => ?_) (fun hc => ?_)
    · replace h := h.1 hc
      refine a_iconst (v := 0) C dX1_measure_104 (by decide) rfl ?_
      refine a_istore_n (lv' := [(0, .ref (L o)), (1, .ref (L a1)), (2, .ref (L b2)), (3, .int 0)]) C dX1_measure_105 rfl (by decide) [1, 2, 3, 0] rfl rfl ?_
      refine a_sub (lv' := [(0, .ref (L o)), (1, .ref (L a1)), (3, .int 0)]) [0, 1, 3] rfl ?_
      obtain ⟨n9, h⟩ := h
      exact c_X1_measure_106 C hr hlocks hE ho ha1  n9 u 0  h
    · replace h := h.2 hc
      refine a_aload_n C dX1_measure_45 rfl 2 rfl rfl ?_
      refine g_5_4 C hE dX1_measure_46 k_b2 kw_1_60 rfl ?_
      have k46 : ms_is E (ms_at E b2 4) 15 := ms_wt hE k_b2 rfl (by decide)
      have n46 : ms_N E (ms_at E b2 4) = 12 := ms_wl hE k_b2 (by decide) (by decide) rfl
      refine a_iload_n C dX1_measure_49 rfl 3 rfl rfl ?_
      obtain ⟨q50, h⟩ := h
      refine a_zald C dX1_measure_50 k46 n46 q50 rfl ?_
      refine a_if_eq (tgt := 98) C dX1_measure_51 (by decide) rfl (fun hc => ?_) (fun hc => ?_)
      · replace h := h.1 hc
        exact c_X1_measure_98 C hr hlocks hE ho ha1 ih u b2 x3 k_b2 h
      · replace h := h.2 hc
        refine a_aload_n C dX1_measure_54 rfl 0 rfl rfl ?_
        refine a_aload_n C dX1_measure_55 rfl 2 rfl rfl ?_
        refine g_5_1 C hE dX1_measure_56 k_b2 kw_1_53 rfl ?_
        have k56 : ms_is E (ms_at E b2 1) 13 := ms_wt hE k_b2 rfl (by decide)
        have n56 : ms_N E (ms_at E b2 1) = 12 := ms_wl hE k_b2 (by decide) (by decide) rfl
        refine a_iload_n C dX1_measure_59 rfl 3 rfl rfl ?_
        obtain ⟨q60, h⟩ := h
        refine a_iald C dX1_measure_60 k56 n56 q60 rfl ?_
        refine a_aload_n C dX1_measure_61 rfl 2 rfl rfl ?_
        refine g_5_2 C hE dX1_measure_62 k_b2 kw_1_55 rfl ?_
        have k62 : ms_is E (ms_at E b2 2) 13 := ms_wt hE k_b2 rfl (by decide)
        have n62 : ms_N E (ms_at E b2 2) = 12 := ms_wl hE k_b2 (by decide) (by decide) rfl
        refine a_iload_n C dX1_measure_65 rfl 3 rfl rfl ?_
        obtain ⟨q66, h⟩ := h
        refine a_iald C dX1_measure_66 k62 n62 q66 rfl ?_
        refine a_aload_n C dX1_measure_67 rfl 2 rfl rfl ?_
        refine g_5_3 C hE dX1_measure_68 k_b2 kw_1_57 rfl ?_
        have k68 : ms_is E (ms_at E b2 3) 13 := ms_wt hE k_b2 rfl (by decide)
        have n68 : ms_N E (ms_at E b2 3) = 12 := ms_wl hE k_b2 (by decide) (by decide) rfl
        refine a_iload_n C dX1_measure_71 rfl 3 rfl rfl ?_
        obtain ⟨q72, h⟩ := h
        refine a_iald C dX1_measure_72 k68 n68 q72 rfl ?_
        refine a_callVV C (c_X1_shorten l G cy L E hE u o (ms_I u (ms_at E b2 1) (Int32.toNatClampNeg x3)) (ms_I u (ms_at E b2 2) (Int32.toNatClampNeg x3)) (ms_I u (ms_at E b2 3) (Int32.toNatClampNeg x3)) ho _ h) ho rfl (by decide) kw_2_238 kw_3_0 kp_3 kw_1_9 kw_3_1 rfl rfl pd_X1_shorten ⟨(Nat.le_of_ble_eq_true rfl), (Nat.le_of_ble_eq_true rfl)⟩ dX1_measure_73 rfl (Nat.le_of_ble_eq_true rfl) ⟨(Nat.le_of_ble_eq_true rfl), (Nat.le_of_ble_eq_true rfl)⟩ rfl (fun u73 h => ?_)
        refine a_aload_n C dX1_measure_76 rfl 0 rfl rfl ?_
        refine a_aload_n C dX1_measure_77 rfl 2 rfl rfl ?_
        refine g_5_2 C hE dX1_measure_78 k_b2 kw_1_55 rfl ?_
        refine a_iload_n C dX1_measure_81 rfl 3 rfl rfl ?_
        obtain ⟨q82, h⟩ := h
        refine a_iald C dX1_measure_82 k62 n62 q82 rfl ?_
        refine a_aload_n C dX1_measure_83 rfl 2 rfl rfl ?_
        refine g_5_1 C hE dX1_measure_84 k_b2 kw_1_53 rfl ?_
        refine a_iload_n C dX1_measure_87 rfl 3 rfl rfl ?_
        obtain ⟨q88, h⟩ := h
        refine a_iald C dX1_measure_88 k56 n56 q88 rfl ?_
        refine a_aload_n C dX1_measure_89 rfl 2 rfl rfl ?_
        refine g_5_3 C hE dX1_measure_90 k_b2 kw_1_57 rfl ?_
        refine a_iload_n C dX1_measure_93 rfl 3 rfl rfl ?_
        obtain ⟨q94, h⟩ := h
        refine a_iald C dX1_measure_94 k68 n68 q94 rfl ?_
        refine a_callVV C (c_X1_shorten l G cy L E hE u73 o (ms_I u73 (ms_at E b2 2) (Int32.toNatClampNeg x3)) (ms_I u73 (ms_at E b2 1) (Int32.toNatClampNeg x3)) (ms_I u73 (ms_at E b2 3) (Int32.toNatClampNeg x3)) ho _ h) ho rfl (by decide) kw_2_238 kw_3_0 kp_3 kw_1_9 kw_3_1 rfl rfl pd_X1_shorten ⟨(Nat.le_of_ble_eq_true rfl), (Nat.le_of_ble_eq_true rfl)⟩ dX1_measure_95 rfl (Nat.le_of_ble_eq_true rfl) ⟨(Nat.le_of_ble_eq_true rfl), (Nat.le_of_ble_eq_true rfl)⟩ rfl (fun u95 h => ?_)
        exact c_X1_measure_98 C hr hlocks hE ho ha1 ih u95 b2 x3 k_b2 h
def wp_X1_measure_11 (E : ms_En) (o : Nat) (a1 : Nat) (post : ms_St → Prop)  : Nat → ms_St → Int32 → Prop
  | 0 => fun _ _ => False
  | n + 1 => fun u x2 => (10 ≤ x2 → ∃ n37, wp_X1_measure_37 E o a1 post n37 u (ms_at E a1 3) 0) ∧ (¬ 10 ≤ x2 → wp_X1_shorten E u o x2 x2 0 (fun u21 => wp_X1_measure_11 E o a1 post n u21 (x2 + 1)))
set_option maxHeartbeats 4000000 in
set_option maxRecDepth 100000 in
theorem c_X1_measure_11 {p : Program} {l : Launch} {e : Env} {s : State} {m : MethodId} {args : Array Value} {below : List Frame} {meth : Method} {c : Code} {G : va_G} {cy : Nat → ClassId} {A : Nat → Prop} {L : Nat → Nat} {E : ms_En} (C : ms_Cx p m c cX1_measure 5 s args (Cond.code ⟨"CensusWalk$Routes", "measure", "(LCensusWalk$Town;)V"⟩ prog_3_method_2_code 5 none) "CensusWalk$Routes" G cy A) (hr : meth.sig.returnType = none) (hlocks : meth.locks = false) (hE : ms_WT E) {o : Nat} {a1 : Nat} {post : ms_St → Prop}  (ho : ms_is E o 1) (ha1 : ms_is E a1 7)  : ∀ (n : Nat) (u : ms_St) (x2 : Int32), wp_X1_measure_11 E o a1 post n u x2 → ms_At p l e ({ frames := 3, cells := 0, slots := 0, locals := 68 } : Room) s m args below meth c 5 G cy A L 0 0 (ms_QV below args s G cy L E A post 0 0) E u 11 [(0, .ref (L o)), (1, .ref (L a1)), (2, .int x2)] [] := by
  intro n
  induction n with
  | zero =>
    intro u x2  h
    exact absurd h id
  | succ n ih =>
    intro u x2  h
    unfold wp_X1_measure_11 at h
    refine a_iload_n C dX1_measure_11 rfl 2 rfl rfl ?_
    refine a_bipush (v := 10) C dX1_measure_12 (by decide) rfl ?_
    refine a_icmp_ge (tgt := 30) C dX1_measure_14 (by decide) rfl (fun hc => ?_) (fun hc => ?_)
    · replace h := h.1 hc
      refine a_aload_n C dX1_measure_30 rfl 1 rfl rfl ?_
      refine g_7_3 C hE dX1_measure_31 ha1 kw_1_176 rfl ?_
      have k31 : ms_is E (ms_at E a1 3) 5 := ms_wt hE ha1 rfl (by decide)
      refine a_astore_n (lv' := [(0, .ref (L o)), (1, .ref (L a1)), (2, .ref (L (ms_at E a1 3)))]) C dX1_measure_34 rfl (by decide) [1, 2, 0] rfl rfl ?_
      refine a_iconst (v := 0) C dX1_measure_35 (by decide) rfl ?_
      refine a_istore_n (lv' := [(0, .ref (L o)), (1, .ref (L a1)), (2, .ref (L (ms_at E a1 3))), (3, .int 0)]) C dX1_measure_36 rfl (by decide) [1, 2, 3, 0] rfl rfl ?_
      obtain ⟨n9, h⟩ := h
      exact c_X1_measure_37 C hr hlocks hE ho ha1  n9 u (ms_at E a1 3) 0 k31 h
    · replace h := h.2 hc
      refine a_aload_n C dX1_measure_17 rfl 0 rfl rfl ?_
      refine a_iload_n C dX1_measure_18 rfl 2 rfl rfl ?_
      refine a_iload_n C dX1_measure_19 rfl 2 rfl rfl ?_
      refine a_iconst (v := 0) C dX1_measure_20 (by decide) rfl ?_
      refine a_callVV C (c_X1_shorten l G cy L E hE u o x2 x2 0 ho _ h) ho rfl (by decide) kw_2_238 kw_3_0 kp_3 kw_1_9 kw_3_1 rfl rfl pd_X1_shorten ⟨(Nat.le_of_ble_eq_true rfl), (Nat.le_of_ble_eq_true rfl)⟩ dX1_measure_21 rfl (Nat.le_of_ble_eq_true rfl) ⟨(Nat.le_of_ble_eq_true rfl), (Nat.le_of_ble_eq_true rfl)⟩ rfl (fun u21 h => ?_)
      refine a_iinc (lv' := [(0, .ref (L o)), (1, .ref (L a1)), (2, .int (x2 + 1))]) (v := (x2 + 1)) C dX1_measure_24 2 rfl (congrArg (fun z => x2 + z) (by decide)) (by decide) [1, 2, 0] rfl rfl ?_
      refine a_goto (tgt := 11) C dX1_measure_27 (by decide) ?_
      exact ih u21 (x2 + 1)  h
def wp_X1_measure (E : ms_En) (u : ms_St) (o : Nat) (a1 : Nat) (post : ms_St → Prop) : Prop := wp_J7_fill_53178 E u (ms_at E o 0) 1000000 (fun u6 => ∃ n11, wp_X1_measure_11 E o a1 post n11 u6 0)
set_option maxHeartbeats 4000000 in
set_option maxRecDepth 100000 in
theorem c_X1_measure (l : Launch) (G : va_G) (cy : Nat → ClassId) (L : Nat → Nat) (E : ms_En) (hE : ms_WT E) (u : ms_St) (o : Nat) (a1 : Nat) (ho : ms_is E o 1) (ha1 : ms_is E a1 7) (post : ms_St → Prop) (h : wp_X1_measure E u o a1 post) : ms_MetV l ⟨"CensusWalk$Routes", "measure", "(LCensusWalk$Town;)V"⟩ (Cond.code ⟨"CensusWalk$Routes", "measure", "(LCensusWalk$Town;)V"⟩ prog_3_method_2_code 5 none :: lw_g) ({ frames := 3, cells := 0, slots := 0, locals := 68 } : Room) G cy L E [.ref (L o), .ref (L a1)] u post 0 0 := by
  refine ms_enterV (lv := [(0, .ref (L o)), (1, .ref (L a1))]) (by decide) (Nat.le_of_ble_eq_true rfl) rfl ?_
  intro p e s m args below meth c A C hr hlocks
  unfold wp_X1_measure at h
  refine a_aload_n C dX1_measure_0 rfl 0 rfl rfl ?_
  refine g_1_0 C hE dX1_measure_1 ho kw_2_49 rfl ?_
  have k1 : ms_is E (ms_at E o 0) 13 := ms_wt hE ho rfl (by decide)
  have n1 : ms_N E (ms_at E o 0) = 100 := ms_wl hE ho (by decide) (by decide) rfl
  refine a_ldc (v := 1000000) C dX1_measure_4 kw_2_234 rfl ?_
  refine a_callSV C (c_J7_fill_53178 l G cy L E hE u (ms_at E o 0) 1000000 k1 _ h) kw_2_235 kw_2_236 kw_1_24 kw_2_237 rfl rfl pd_J7_fill_53178 ⟨(Nat.le_of_ble_eq_true rfl), (Nat.le_of_ble_eq_true rfl)⟩ dX1_measure_6 rfl (Nat.le_of_ble_eq_true rfl) ⟨(Nat.le_of_ble_eq_true rfl), (Nat.le_of_ble_eq_true rfl)⟩ rfl (fun u6 h => ?_)
  refine a_iconst (v := 0) C dX1_measure_9 (by decide) rfl ?_
  refine a_istore_n (lv' := [(0, .ref (L o)), (1, .ref (L a1)), (2, .int 0)]) C dX1_measure_10 rfl (by decide) [1, 2, 0] rfl rfl ?_
  obtain ⟨n9, h⟩ := h
  exact c_X1_measure_11 C hr hlocks hE ho ha1  n9 u6 0  h
