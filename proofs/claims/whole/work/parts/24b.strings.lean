/-! java/lang/String.coder()B -/
theorem pd_J0_coder_7d493 : (⟨"java/lang/String", "coder", "()B"⟩ : MethodName).cls = "java/lang/String" ∧ (⟨"java/lang/String", "coder", "()B"⟩ : MethodName).cls ≠ "java/lang/invoke/MethodHandle" ∧ (⟨"java/lang/String", "coder", "()B"⟩ : MethodName).cls ≠ "java/lang/invoke/VarHandle" ∧ (parseMethodDescriptor (⟨"java/lang/String", "coder", "()B"⟩ : MethodName).desc).map (fun d => d.parameters.length) = some 0 := by decide +kernel
def wp_J0_coder_7d493_14 (E : ms_En) (o : Nat) (post : Int32 → ms_St → Prop)  (u : ms_St) (z0 : Int32) : Prop := narrow .byte (.int z0) = .int z0 ∧ (post z0 u)
set_option maxHeartbeats 4000000 in
set_option maxRecDepth 100000 in
theorem c_J0_coder_7d493_14 {p : Program} {l : Launch} {e : Env} {s : State} {m : MethodId} {args : Array Value} {below : List Frame} {meth : Method} {c : Code} {G : va_G} {cy : Nat → ClassId} {A : Nat → Prop} {L : Nat → Nat} {E : ms_En} (C : ms_Cx p m c cJ0_coder_7d493 1 s args (Cond.code ⟨"java/lang/String", "coder", "()B"⟩ prog_21_method_152_code 1 (some .byte)) "java/lang/String" G cy A) (hr : meth.sig.returnType = (some .byte)) (hlocks : meth.locks = false) (hE : ms_WT E) {o : Nat} {post : Int32 → ms_St → Prop}  (ho : o < 33)  (u : ms_St) (z0 : Int32)  (h : wp_J0_coder_7d493_14 E o post u z0) : ms_At p l e ({ frames := 0, cells := 0, slots := 0, locals := 0 } : Room) s m args below meth c 1 G cy A L 0 0 (ms_QI below args s G cy L E A post 0 0) E u 14 [] [.int z0] := by
  unfold wp_J0_coder_7d493_14 at h
  obtain ⟨q14, h⟩ := h
  exact a_zret C dJ0_coder_7d493_14 hr hlocks (Nat.le_of_ble_eq_true rfl) (Nat.le_of_ble_eq_true rfl) q14 h
def wp_J0_coder_7d493 (E : ms_En) (u : ms_St) (o : Nat) (post : Int32 → ms_St → Prop) : Prop := ((1 : Int32) = 0 → wp_J0_coder_7d493_14 E o post u 1) ∧ (¬ (1 : Int32) = 0 → wp_J0_coder_7d493_14 E o post u 0)
set_option maxHeartbeats 4000000 in
set_option maxRecDepth 100000 in
theorem c_J0_coder_7d493 (l : Launch) (G : va_G) (cy : Nat → ClassId) (L : Nat → Nat) (E : ms_En) (hE : ms_WT E) (u : ms_St) (o : Nat) (ho : o < 33) (post : Int32 → ms_St → Prop) (h : wp_J0_coder_7d493 E u o post) : ms_MetI l ⟨"java/lang/String", "coder", "()B"⟩ (Cond.code ⟨"java/lang/String", "coder", "()B"⟩ prog_21_method_152_code 1 (some .byte) :: lw_g) ({ frames := 0, cells := 0, slots := 0, locals := 0 } : Room) G cy L E [.ref (cy (100 + o))] u post 0 0 := by
  refine ms_enterI (lv := [(0, .ref (cy (100 + o)))]) (by decide) (Nat.le_of_ble_eq_true rfl) rfl ?_
  intro p e s m args below meth c A C hr hlocks
  unfold wp_J0_coder_7d493 at h
  refine a_cstr C dJ0_coder_7d493_0 kw_4_9 rfl ?_
  refine a_if_eq (tgt := 13) C dJ0_coder_7d493_3 (by decide) rfl (fun hc => ?_) (fun hc => ?_)
  · replace h := h.1 hc
    refine a_iconst (v := 1) C dJ0_coder_7d493_13 (by decide) rfl ?_
    refine a_sub (lv' := []) [] rfl ?_
    exact c_J0_coder_7d493_14 C hr hlocks hE ho  u 1  h
  · replace h := h.2 hc
    refine a_aload_n C dJ0_coder_7d493_6 rfl 0 rfl rfl ?_
    refine a_strc C dJ0_coder_7d493_7 ho kw_7_222 rfl ?_
    refine a_goto (tgt := 14) C dJ0_coder_7d493_10 (by decide) ?_
    refine a_sub (lv' := []) [] rfl ?_
    exact c_J0_coder_7d493_14 C hr hlocks hE ho  u 0  h

/-! java/lang/String.length()I -/
theorem pd_J0_length_8abf5 : (⟨"java/lang/String", "length", "()I"⟩ : MethodName).cls = "java/lang/String" ∧ (⟨"java/lang/String", "length", "()I"⟩ : MethodName).cls ≠ "java/lang/invoke/MethodHandle" ∧ (⟨"java/lang/String", "length", "()I"⟩ : MethodName).cls ≠ "java/lang/invoke/VarHandle" ∧ (parseMethodDescriptor (⟨"java/lang/String", "length", "()I"⟩ : MethodName).desc).map (fun d => d.parameters.length) = some 0 := by decide +kernel
def wp_J0_length_8abf5 (E : ms_En) (u : ms_St) (o : Nat) (post : Int32 → ms_St → Prop) : Prop := wp_J0_coder_7d493 E u o (fun r6 u6 => post ((nI (ms_sl o)) >>> (r6 &&& 31)) u6)
set_option maxHeartbeats 4000000 in
set_option maxRecDepth 100000 in
theorem c_J0_length_8abf5 (l : Launch) (G : va_G) (cy : Nat → ClassId) (L : Nat → Nat) (E : ms_En) (hE : ms_WT E) (u : ms_St) (o : Nat) (ho : o < 33) (post : Int32 → ms_St → Prop) (h : wp_J0_length_8abf5 E u o post) : ms_MetI l ⟨"java/lang/String", "length", "()I"⟩ (Cond.code ⟨"java/lang/String", "length", "()I"⟩ prog_21_method_54_code 1 (some .int) :: lw_g) ({ frames := 1, cells := 0, slots := 0, locals := 20 } : Room) G cy L E [.ref (cy (100 + o))] u post 0 0 := by
  refine ms_enterI (lv := [(0, .ref (cy (100 + o)))]) (by decide) (Nat.le_of_ble_eq_true rfl) rfl ?_
  intro p e s m args below meth c A C hr hlocks
  unfold wp_J0_length_8abf5 at h
  refine a_aload_n C dJ0_length_8abf5_0 rfl 0 rfl rfl ?_
  refine a_strv C dJ0_length_8abf5_1 ho kw_7_221 rfl ?_
  refine a_strn C dJ0_length_8abf5_4 ho rfl ?_
  refine a_aload_n C dJ0_length_8abf5_5 rfl 0 rfl rfl ?_
  refine a_callWI C (c_J0_coder_7d493 l G cy L E hE u o ho _ h) ho kw_4_5 kw_4_6 kw_4_7 kw_1_18 kw_4_8 rfl rfl pd_J0_coder_7d493 ⟨(Nat.le_of_ble_eq_true rfl), (Nat.le_of_ble_eq_true rfl)⟩ dJ0_length_8abf5_6 rfl (Nat.le_of_ble_eq_true rfl) ⟨(Nat.le_of_ble_eq_true rfl), (Nat.le_of_ble_eq_true rfl)⟩ rfl (fun r6 u6 h => ?_)
  refine a_ishr C dJ0_length_8abf5_9 rfl ?_
  exact a_iret C dJ0_length_8abf5_10 hr hlocks (Nat.le_of_ble_eq_true rfl) (Nat.le_of_ble_eq_true rfl) h

/-! java/lang/String.isLatin1()Z -/
theorem pd_J0_isLatin1_aae02 : (⟨"java/lang/String", "isLatin1", "()Z"⟩ : MethodName).cls = "java/lang/String" ∧ (⟨"java/lang/String", "isLatin1", "()Z"⟩ : MethodName).cls ≠ "java/lang/invoke/MethodHandle" ∧ (⟨"java/lang/String", "isLatin1", "()Z"⟩ : MethodName).cls ≠ "java/lang/invoke/VarHandle" ∧ (parseMethodDescriptor (⟨"java/lang/String", "isLatin1", "()Z"⟩ : MethodName).desc).map (fun d => d.parameters.length) = some 0 := by decide +kernel
def wp_J0_isLatin1_aae02_18 (E : ms_En) (o : Nat) (post : Int32 → ms_St → Prop)  (u : ms_St) (z0 : Int32) : Prop := (z0 = 0 ∨ z0 = 1) ∧ (post z0 u)
set_option maxHeartbeats 4000000 in
set_option maxRecDepth 100000 in
theorem c_J0_isLatin1_aae02_18 {p : Program} {l : Launch} {e : Env} {s : State} {m : MethodId} {args : Array Value} {below : List Frame} {meth : Method} {c : Code} {G : va_G} {cy : Nat → ClassId} {A : Nat → Prop} {L : Nat → Nat} {E : ms_En} (C : ms_Cx p m c cJ0_isLatin1_aae02 1 s args (Cond.code ⟨"java/lang/String", "isLatin1", "()Z"⟩ prog_21_method_154_code 1 (some .boolean)) "java/lang/String" G cy A) (hr : meth.sig.returnType = (some .boolean)) (hlocks : meth.locks = false) (hE : ms_WT E) {o : Nat} {post : Int32 → ms_St → Prop}  (ho : o < 33)  (u : ms_St) (z0 : Int32)  (h : wp_J0_isLatin1_aae02_18 E o post u z0) : ms_At p l e ({ frames := 0, cells := 0, slots := 0, locals := 0 } : Room) s m args below meth c 1 G cy A L 0 0 (ms_QI below args s G cy L E A post 0 0) E u 18 [] [.int z0] := by
  unfold wp_J0_isLatin1_aae02_18 at h
  obtain ⟨q18, h⟩ := h
  exact a_zret C dJ0_isLatin1_aae02_18 hr hlocks (Nat.le_of_ble_eq_true rfl) (Nat.le_of_ble_eq_true rfl) (ms_nz q18) h
def wp_J0_isLatin1_aae02_17 (E : ms_En) (o : Nat) (post : Int32 → ms_St → Prop)  (u : ms_St)  : Prop := wp_J0_isLatin1_aae02_18 E o post u 0
set_option maxHeartbeats 4000000 in
set_option maxRecDepth 100000 in
theorem c_J0_isLatin1_aae02_17 {p : Program} {l : Launch} {e : Env} {s : State} {m : MethodId} {args : Array Value} {below : List Frame} {meth : Method} {c : Code} {G : va_G} {cy : Nat → ClassId} {A : Nat → Prop} {L : Nat → Nat} {E : ms_En} (C : ms_Cx p m c cJ0_isLatin1_aae02 1 s args (Cond.code ⟨"java/lang/String", "isLatin1", "()Z"⟩ prog_21_method_154_code 1 (some .boolean)) "java/lang/String" G cy A) (hr : meth.sig.returnType = (some .boolean)) (hlocks : meth.locks = false) (hE : ms_WT E) {o : Nat} {post : Int32 → ms_St → Prop}  (ho : o < 33)  (u : ms_St)   (h : wp_J0_isLatin1_aae02_17 E o post u ) : ms_At p l e ({ frames := 0, cells := 0, slots := 0, locals := 0 } : Room) s m args below meth c 1 G cy A L 0 0 (ms_QI below args s G cy L E A post 0 0) E u 17 [] [] := by
  unfold wp_J0_isLatin1_aae02_17 at h
  refine a_iconst (v := 0) C dJ0_isLatin1_aae02_17 (by decide) rfl ?_
  exact c_J0_isLatin1_aae02_18 C hr hlocks hE ho  u 0  h
def wp_J0_isLatin1_aae02 (E : ms_En) (u : ms_St) (o : Nat) (post : Int32 → ms_St → Prop) : Prop := ((1 : Int32) = 0 → wp_J0_isLatin1_aae02_17 E o post u) ∧ (¬ (1 : Int32) = 0 → ((0 : Int32) = 0 → wp_J0_isLatin1_aae02_18 E o post u 1) ∧ (¬ (0 : Int32) = 0 → wp_J0_isLatin1_aae02_17 E o post u))
set_option maxHeartbeats 4000000 in
set_option maxRecDepth 100000 in
theorem c_J0_isLatin1_aae02 (l : Launch) (G : va_G) (cy : Nat → ClassId) (L : Nat → Nat) (E : ms_En) (hE : ms_WT E) (u : ms_St) (o : Nat) (ho : o < 33) (post : Int32 → ms_St → Prop) (h : wp_J0_isLatin1_aae02 E u o post) : ms_MetI l ⟨"java/lang/String", "isLatin1", "()Z"⟩ (Cond.code ⟨"java/lang/String", "isLatin1", "()Z"⟩ prog_21_method_154_code 1 (some .boolean) :: lw_g) ({ frames := 0, cells := 0, slots := 0, locals := 0 } : Room) G cy L E [.ref (cy (100 + o))] u post 0 0 := by
  refine ms_enterI (lv := [(0, .ref (cy (100 + o)))]) (by decide) (Nat.le_of_ble_eq_true rfl) rfl ?_
  intro p e s m args below meth c A C hr hlocks
  unfold wp_J0_isLatin1_aae02 at h
  refine a_cstr C dJ0_isLatin1_aae02_0 kw_4_9 rfl ?_
  refine a_if_eq (tgt := 17) C dJ0_isLatin1_aae02_3 (by decide) rfl (fun hc => ?_) (fun hc => ?_)
  · replace h := h.1 hc
    refine a_sub (lv' := []) [] rfl ?_
    exact c_J0_isLatin1_aae02_17 C hr hlocks hE ho  u  h
  · replace h := h.2 hc
    refine a_aload_n C dJ0_isLatin1_aae02_6 rfl 0 rfl rfl ?_
    refine a_strc C dJ0_isLatin1_aae02_7 ho kw_7_222 rfl ?_
    refine a_if_ne (tgt := 17) C dJ0_isLatin1_aae02_10 (by decide) rfl (fun hc => ?_) (fun hc => ?_)
    · replace h := h.2 hc
      refine a_sub (lv' := []) [] rfl ?_
      exact c_J0_isLatin1_aae02_17 C hr hlocks hE ho  u  h
    · replace h := h.1 hc
      refine a_iconst (v := 1) C dJ0_isLatin1_aae02_13 (by decide) rfl ?_
      refine a_goto (tgt := 18) C dJ0_isLatin1_aae02_14 (by decide) ?_
      refine a_sub (lv' := []) [] rfl ?_
      exact c_J0_isLatin1_aae02_18 C hr hlocks hE ho  u 1  h

/-! jdk/internal/util/Preconditions.checkIndex(IILjava/util/function/BiFunction;)I -/
theorem pd_J3_checkIndex_8e157_z : (⟨"jdk/internal/util/Preconditions", "checkIndex", "(IILjava/util/function/BiFunction;)I"⟩ : MethodName).cls ≠ "java/lang/invoke/MethodHandle" ∧ (⟨"jdk/internal/util/Preconditions", "checkIndex", "(IILjava/util/function/BiFunction;)I"⟩ : MethodName).cls ≠ "java/lang/invoke/VarHandle" ∧ (parseMethodDescriptor (⟨"jdk/internal/util/Preconditions", "checkIndex", "(IILjava/util/function/BiFunction;)I"⟩ : MethodName).desc).map (fun d => d.parameters.length) = some 3 := by decide +kernel
def wp_J3_checkIndex_8e157_z_9 (E : ms_En) (a0 : Int32) (a1 : Int32) (post : Int32 → ms_St → Prop)  (u : ms_St)  : Prop := False
set_option maxHeartbeats 4000000 in
set_option maxRecDepth 100000 in
theorem c_J3_checkIndex_8e157_z_9 {p : Program} {l : Launch} {e : Env} {s : State} {m : MethodId} {args : Array Value} {below : List Frame} {meth : Method} {c : Code} {G : va_G} {cy : Nat → ClassId} {A : Nat → Prop} {L : Nat → Nat} {E : ms_En} (C : ms_Cx p m c cJ3_checkIndex_8e157 3 s args (Cond.code ⟨"jdk/internal/util/Preconditions", "checkIndex", "(IILjava/util/function/BiFunction;)I"⟩ prog_27_method_11_code 3 (some .int)) "jdk/internal/util/Preconditions" G cy A) (hr : meth.sig.returnType = (some .int)) (hlocks : meth.locks = false) (hE : ms_WT E) {a0 : Int32} {a1 : Int32} {post : Int32 → ms_St → Prop}    (u : ms_St)   (h : wp_J3_checkIndex_8e157_z_9 E a0 a1 post u ) : ms_At p l e ({ frames := 0, cells := 0, slots := 0, locals := 0 } : Room) s m args below meth c 3 G cy A L 0 0 (ms_QI below args s G cy L E A post 0 0) E u 9 [(2, .null)] [] := by
  unfold wp_J3_checkIndex_8e157_z_9 at h
  exact h.elim
def wp_J3_checkIndex_8e157_z (E : ms_En) (u : ms_St) (a0 : Int32) (a1 : Int32) (post : Int32 → ms_St → Prop) : Prop := (a0 < 0 → wp_J3_checkIndex_8e157_z_9 E a0 a1 post u) ∧ (¬ a0 < 0 → (a0 < a1 → post a0 u) ∧ (¬ a0 < a1 → wp_J3_checkIndex_8e157_z_9 E a0 a1 post u))
set_option maxHeartbeats 4000000 in
set_option maxRecDepth 100000 in
theorem c_J3_checkIndex_8e157_z (l : Launch) (G : va_G) (cy : Nat → ClassId) (L : Nat → Nat) (E : ms_En) (hE : ms_WT E) (u : ms_St) (a0 : Int32) (a1 : Int32)  (post : Int32 → ms_St → Prop) (h : wp_J3_checkIndex_8e157_z E u a0 a1 post) : ms_MetI l ⟨"jdk/internal/util/Preconditions", "checkIndex", "(IILjava/util/function/BiFunction;)I"⟩ (Cond.code ⟨"jdk/internal/util/Preconditions", "checkIndex", "(IILjava/util/function/BiFunction;)I"⟩ prog_27_method_11_code 3 (some .int) :: lw_g) ({ frames := 0, cells := 0, slots := 0, locals := 0 } : Room) G cy L E [.int a0, .int a1, .null] u post 0 0 := by
  refine ms_enterI (lv := [(0, .int a0), (1, .int a1), (2, .null)]) (by decide) (Nat.le_of_ble_eq_true rfl) rfl ?_
  intro p e s m args below meth c A C hr hlocks
  unfold wp_J3_checkIndex_8e157_z at h
  refine a_iload_n C dJ3_checkIndex_8e157_0 rfl 0 rfl rfl ?_
  refine a_if_lt (tgt := 9) C dJ3_checkIndex_8e157_1 (by decide) rfl (fun hc => ?_) (fun hc => ?_)
  · replace h := h.1 hc
    refine a_sub (lv' := [(2, .null)]) [2] rfl ?_
    exact c_J3_checkIndex_8e157_z_9 C hr hlocks hE   u  h
  · replace h := h.2 hc
    refine a_iload_n C dJ3_checkIndex_8e157_4 rfl 0 rfl rfl ?_
    refine a_iload_n C dJ3_checkIndex_8e157_5 rfl 1 rfl rfl ?_
    refine a_icmp_lt (tgt := 16) C dJ3_checkIndex_8e157_6 (by decide) rfl (fun hc => ?_) (fun hc => ?_)
    · replace h := h.1 hc
      refine a_iload_n C dJ3_checkIndex_8e157_16 rfl 0 rfl rfl ?_
      exact a_iret C dJ3_checkIndex_8e157_17 hr hlocks (Nat.le_of_ble_eq_true rfl) (Nat.le_of_ble_eq_true rfl) h
    · replace h := h.2 hc
      refine a_sub (lv' := [(2, .null)]) [2] rfl ?_
      exact c_J3_checkIndex_8e157_z_9 C hr hlocks hE   u  h

/-! jdk/internal/util/Preconditions.checkIndex(IILjava/util/function/BiFunction;)I -/
theorem pd_J3_checkIndex_8e157_y : (⟨"jdk/internal/util/Preconditions", "checkIndex", "(IILjava/util/function/BiFunction;)I"⟩ : MethodName).cls ≠ "java/lang/invoke/MethodHandle" ∧ (⟨"jdk/internal/util/Preconditions", "checkIndex", "(IILjava/util/function/BiFunction;)I"⟩ : MethodName).cls ≠ "java/lang/invoke/VarHandle" ∧ (parseMethodDescriptor (⟨"jdk/internal/util/Preconditions", "checkIndex", "(IILjava/util/function/BiFunction;)I"⟩ : MethodName).desc).map (fun d => d.parameters.length) = some 3 := by decide +kernel
def wp_J3_checkIndex_8e157_y_9 (E : ms_En) (a0 : Int32) (a1 : Int32) (a2 : Nat) (post : Int32 → ms_St → Prop)  (u : ms_St)  : Prop := False
set_option maxHeartbeats 4000000 in
set_option maxRecDepth 100000 in
theorem c_J3_checkIndex_8e157_y_9 {p : Program} {l : Launch} {e : Env} {s : State} {m : MethodId} {args : Array Value} {below : List Frame} {meth : Method} {c : Code} {G : va_G} {cy : Nat → ClassId} {A : Nat → Prop} {L : Nat → Nat} {E : ms_En} (C : ms_Cx p m c cJ3_checkIndex_8e157 3 s args (Cond.code ⟨"jdk/internal/util/Preconditions", "checkIndex", "(IILjava/util/function/BiFunction;)I"⟩ prog_27_method_11_code 3 (some .int)) "jdk/internal/util/Preconditions" G cy A) (hr : meth.sig.returnType = (some .int)) (hlocks : meth.locks = false) (hE : ms_WT E) {a0 : Int32} {a1 : Int32} {a2 : Nat} {post : Int32 → ms_St → Prop}    (u : ms_St)   (h : wp_J3_checkIndex_8e157_y_9 E a0 a1 a2 post u ) : ms_At p l e ({ frames := 0, cells := 0, slots := 0, locals := 0 } : Room) s m args below meth c 3 G cy A L 0 0 (ms_QI below args s G cy L E A post 0 0) E u 9 [(2, .ref a2)] [] := by
  unfold wp_J3_checkIndex_8e157_y_9 at h
  exact h.elim
def wp_J3_checkIndex_8e157_y (E : ms_En) (u : ms_St) (a0 : Int32) (a1 : Int32) (a2 : Nat) (post : Int32 → ms_St → Prop) : Prop := (a0 < 0 → wp_J3_checkIndex_8e157_y_9 E a0 a1 a2 post u) ∧ (¬ a0 < 0 → (a0 < a1 → post a0 u) ∧ (¬ a0 < a1 → wp_J3_checkIndex_8e157_y_9 E a0 a1 a2 post u))
set_option maxHeartbeats 4000000 in
set_option maxRecDepth 100000 in
theorem c_J3_checkIndex_8e157_y (l : Launch) (G : va_G) (cy : Nat → ClassId) (L : Nat → Nat) (E : ms_En) (hE : ms_WT E) (u : ms_St) (a0 : Int32) (a1 : Int32) (a2 : Nat)  (post : Int32 → ms_St → Prop) (h : wp_J3_checkIndex_8e157_y E u a0 a1 a2 post) : ms_MetI l ⟨"jdk/internal/util/Preconditions", "checkIndex", "(IILjava/util/function/BiFunction;)I"⟩ (Cond.code ⟨"jdk/internal/util/Preconditions", "checkIndex", "(IILjava/util/function/BiFunction;)I"⟩ prog_27_method_11_code 3 (some .int) :: lw_g) ({ frames := 0, cells := 0, slots := 0, locals := 0 } : Room) G cy L E [.int a0, .int a1, .ref a2] u post 0 0 := by
  refine ms_enterI (lv := [(0, .int a0), (1, .int a1), (2, .ref a2)]) (by decide) (Nat.le_of_ble_eq_true rfl) rfl ?_
  intro p e s m args below meth c A C hr hlocks
  unfold wp_J3_checkIndex_8e157_y at h
  refine a_iload_n C dJ3_checkIndex_8e157_0 rfl 0 rfl rfl ?_
  refine a_if_lt (tgt := 9) C dJ3_checkIndex_8e157_1 (by decide) rfl (fun hc => ?_) (fun hc => ?_)
  · replace h := h.1 hc
    refine a_sub (lv' := [(2, .ref a2)]) [2] rfl ?_
    exact c_J3_checkIndex_8e157_y_9 C hr hlocks hE   u  h
  · replace h := h.2 hc
    refine a_iload_n C dJ3_checkIndex_8e157_4 rfl 0 rfl rfl ?_
    refine a_iload_n C dJ3_checkIndex_8e157_5 rfl 1 rfl rfl ?_
    refine a_icmp_lt (tgt := 16) C dJ3_checkIndex_8e157_6 (by decide) rfl (fun hc => ?_) (fun hc => ?_)
    · replace h := h.1 hc
      refine a_iload_n C dJ3_checkIndex_8e157_16 rfl 0 rfl rfl ?_
      exact a_iret C dJ3_checkIndex_8e157_17 hr hlocks (Nat.le_of_ble_eq_true rfl) (Nat.le_of_ble_eq_true rfl) h
    · replace h := h.2 hc
      refine a_sub (lv' := [(2, .ref a2)]) [2] rfl ?_
      exact c_J3_checkIndex_8e157_y_9 C hr hlocks hE   u  h

/-! java/lang/String.checkIndex(II)V -/
theorem pd_J0_checkIndex_df160 : (⟨"java/lang/String", "checkIndex", "(II)V"⟩ : MethodName).cls ≠ "java/lang/invoke/MethodHandle" ∧ (⟨"java/lang/String", "checkIndex", "(II)V"⟩ : MethodName).cls ≠ "java/lang/invoke/VarHandle" ∧ (parseMethodDescriptor (⟨"java/lang/String", "checkIndex", "(II)V"⟩ : MethodName).desc).map (fun d => d.parameters.length) = some 2 := by decide +kernel
def wp_J0_checkIndex_df160 (E : ms_En) (u : ms_St) (a0 : Int32) (a1 : Int32) (post : ms_St → Prop) : Prop := (wp_J3_checkIndex_8e157_z E u a0 a1 (fun r5 u5 => post u5)) ∧ (∀ t2 : Nat, wp_J3_checkIndex_8e157_y E u a0 a1 t2 (fun r5 u5 => post u5))
set_option maxHeartbeats 4000000 in
set_option maxRecDepth 100000 in
theorem c_J0_checkIndex_df160 (l : Launch) (G : va_G) (cy : Nat → ClassId) (L : Nat → Nat) (E : ms_En) (hE : ms_WT E) (u : ms_St) (a0 : Int32) (a1 : Int32)  (post : ms_St → Prop) (h : wp_J0_checkIndex_df160 E u a0 a1 post) : ms_MetV l ⟨"java/lang/String", "checkIndex", "(II)V"⟩ (Cond.code ⟨"java/lang/String", "checkIndex", "(II)V"⟩ prog_21_method_155_code 2 none :: lw_g) ({ frames := 1, cells := 0, slots := 0, locals := 22 } : Room) G cy L E [.int a0, .int a1] u post 0 0 := by
  refine ms_enterV (lv := [(0, .int a0), (1, .int a1)]) (by decide) (Nat.le_of_ble_eq_true rfl) rfl ?_
  intro p e s m args below meth c A C hr hlocks
  unfold wp_J0_checkIndex_df160 at h
  refine a_iload_n C dJ0_checkIndex_df160_0 rfl 0 rfl rfl ?_
  refine a_iload_n C dJ0_checkIndex_df160_1 rfl 1 rfl rfl ?_
  refine a_fmt C dJ0_checkIndex_df160_2 kw_4_25 rfl ?_ (fun t2 => ?_)
  · replace h := h.1
    refine a_callSI C (c_J3_checkIndex_8e157_z l G cy L E hE u a0 a1  _ h) kw_4_27 kw_4_28 kw_1_20 kw_4_29 rfl rfl pd_J3_checkIndex_8e157_z ⟨(Nat.le_of_ble_eq_true rfl), (Nat.le_of_ble_eq_true rfl)⟩ dJ0_checkIndex_df160_5 rfl (Nat.le_of_ble_eq_true rfl) ⟨(Nat.le_of_ble_eq_true rfl), (Nat.le_of_ble_eq_true rfl)⟩ rfl (fun r5 u5 h => ?_)
    refine a_pop C dJ0_checkIndex_df160_8 rfl rfl ?_
    exact a_vret C dJ0_checkIndex_df160_9 hr hlocks (Nat.le_of_ble_eq_true rfl) (Nat.le_of_ble_eq_true rfl) h
  · replace h := h.2 t2
    refine a_callSI C (c_J3_checkIndex_8e157_y l G cy L E hE u a0 a1 t2  _ h) kw_4_27 kw_4_28 kw_1_20 kw_4_29 rfl rfl pd_J3_checkIndex_8e157_y ⟨(Nat.le_of_ble_eq_true rfl), (Nat.le_of_ble_eq_true rfl)⟩ dJ0_checkIndex_df160_5 rfl (Nat.le_of_ble_eq_true rfl) ⟨(Nat.le_of_ble_eq_true rfl), (Nat.le_of_ble_eq_true rfl)⟩ rfl (fun r5 u5 h => ?_)
    refine a_pop C dJ0_checkIndex_df160_8 rfl rfl ?_
    exact a_vret C dJ0_checkIndex_df160_9 hr hlocks (Nat.le_of_ble_eq_true rfl) (Nat.le_of_ble_eq_true rfl) h

/-! java/lang/StringLatin1.charAt([BI)C -/
theorem pd_J1_charAt_3b067 : (⟨"java/lang/StringLatin1", "charAt", "([BI)C"⟩ : MethodName).cls ≠ "java/lang/invoke/MethodHandle" ∧ (⟨"java/lang/StringLatin1", "charAt", "([BI)C"⟩ : MethodName).cls ≠ "java/lang/invoke/VarHandle" ∧ (parseMethodDescriptor (⟨"java/lang/StringLatin1", "charAt", "([BI)C"⟩ : MethodName).desc).map (fun d => d.parameters.length) = some 2 := by decide +kernel
def wp_J1_charAt_3b067 (E : ms_En) (u : ms_St) (a0 : Nat) (a1 : Int32) (post : Int32 → ms_St → Prop) : Prop := wp_J0_checkIndex_df160 E u a1 (nI (ms_sl a0)) (fun u3 => vp_in a1 (ms_sl a0) ∧ (narrow .char (.int ((Int32.toUInt32 ((ms_sb a0 (Int32.toNatClampNeg a1)) &&& 255) % 65536).toInt32)) = .int ((Int32.toUInt32 ((ms_sb a0 (Int32.toNatClampNeg a1)) &&& 255) % 65536).toInt32) ∧ (post ((Int32.toUInt32 ((ms_sb a0 (Int32.toNatClampNeg a1)) &&& 255) % 65536).toInt32) u3)))
set_option maxHeartbeats 4000000 in
set_option maxRecDepth 100000 in
theorem c_J1_charAt_3b067 (l : Launch) (G : va_G) (cy : Nat → ClassId) (L : Nat → Nat) (E : ms_En) (hE : ms_WT E) (u : ms_St) (a0 : Nat) (a1 : Int32) (ha0 : a0 < 33) (post : Int32 → ms_St → Prop) (h : wp_J1_charAt_3b067 E u a0 a1 post) : ms_MetI l ⟨"java/lang/StringLatin1", "charAt", "([BI)C"⟩ (Cond.code ⟨"java/lang/StringLatin1", "charAt", "([BI)C"⟩ prog_22_method_2_code 2 (some .char) :: lw_g) ({ frames := 2, cells := 0, slots := 0, locals := 43 } : Room) G cy L E [.ref (cy (200 + a0)), .int a1] u post 0 0 := by
  refine ms_enterI (lv := [(0, .ref (cy (200 + a0))), (1, .int a1)]) (by decide) (Nat.le_of_ble_eq_true rfl) rfl ?_
  intro p e s m args below meth c A C hr hlocks
  unfold wp_J1_charAt_3b067 at h
  refine a_iload_n C dJ1_charAt_3b067_0 rfl 1 rfl rfl ?_
  refine a_aload_n C dJ1_charAt_3b067_1 rfl 0 rfl rfl ?_
  refine a_strn C dJ1_charAt_3b067_2 ha0 rfl ?_
  refine a_callSV C (c_J0_checkIndex_df160 l G cy L E hE u a1 (nI (ms_sl a0))  _ h) kw_4_22 kw_4_23 kw_1_18 kw_4_24 rfl rfl pd_J0_checkIndex_df160 ⟨(Nat.le_of_ble_eq_true rfl), (Nat.le_of_ble_eq_true rfl)⟩ dJ1_charAt_3b067_3 rfl (Nat.le_of_ble_eq_true rfl) ⟨(Nat.le_of_ble_eq_true rfl), (Nat.le_of_ble_eq_true rfl)⟩ rfl (fun u3 h => ?_)
  refine a_aload_n C dJ1_charAt_3b067_6 rfl 0 rfl rfl ?_
  refine a_iload_n C dJ1_charAt_3b067_7 rfl 1 rfl rfl ?_
  obtain ⟨q8, h⟩ := h
  refine a_strb C dJ1_charAt_3b067_8 ha0 q8 rfl ?_
  refine a_sipush (v := 255) C dJ1_charAt_3b067_9 (by decide) rfl ?_
  refine a_iand C dJ1_charAt_3b067_12 rfl ?_
  refine a_i2c C dJ1_charAt_3b067_13 rfl ?_
  obtain ⟨q14, h⟩ := h
  exact a_zret C dJ1_charAt_3b067_14 hr hlocks (Nat.le_of_ble_eq_true rfl) (Nat.le_of_ble_eq_true rfl) q14 h

/-! java/lang/String.charAt(I)C -/
theorem pd_J0_charAt_5068e : (⟨"java/lang/String", "charAt", "(I)C"⟩ : MethodName).cls = "java/lang/String" ∧ (⟨"java/lang/String", "charAt", "(I)C"⟩ : MethodName).cls ≠ "java/lang/invoke/MethodHandle" ∧ (⟨"java/lang/String", "charAt", "(I)C"⟩ : MethodName).cls ≠ "java/lang/invoke/VarHandle" ∧ (parseMethodDescriptor (⟨"java/lang/String", "charAt", "(I)C"⟩ : MethodName).desc).map (fun d => d.parameters.length) = some 1 := by decide +kernel
def wp_J0_charAt_5068e (E : ms_En) (u : ms_St) (o : Nat) (a1 : Int32) (post : Int32 → ms_St → Prop) : Prop := wp_J0_isLatin1_aae02 E u o (fun r1 u1 => (r1 = 0 → False) ∧ (¬ r1 = 0 → wp_J1_charAt_3b067 E u1 o a1 (fun r12 u12 => narrow .char (.int r12) = .int r12 ∧ (post r12 u12))))
set_option maxHeartbeats 4000000 in
set_option maxRecDepth 100000 in
theorem c_J0_charAt_5068e (l : Launch) (G : va_G) (cy : Nat → ClassId) (L : Nat → Nat) (E : ms_En) (hE : ms_WT E) (u : ms_St) (o : Nat) (a1 : Int32) (ho : o < 33) (post : Int32 → ms_St → Prop) (h : wp_J0_charAt_5068e E u o a1 post) : ms_MetI l ⟨"java/lang/String", "charAt", "(I)C"⟩ (Cond.code ⟨"java/lang/String", "charAt", "(I)C"⟩ prog_21_method_56_code 2 (some .char) :: lw_g) ({ frames := 3, cells := 0, slots := 0, locals := 64 } : Room) G cy L E [.ref (cy (100 + o)), .int a1] u post 0 0 := by
  refine ms_enterI (lv := [(0, .ref (cy (100 + o))), (1, .int a1)]) (by decide) (Nat.le_of_ble_eq_true rfl) rfl ?_
  intro p e s m args below meth c A C hr hlocks
  unfold wp_J0_charAt_5068e at h
  refine a_aload_n C dJ0_charAt_5068e_0 rfl 0 rfl rfl ?_
  refine a_callWI C (c_J0_isLatin1_aae02 l G cy L E hE u o ho _ h) ho kw_4_15 kw_4_16 kw_4_17 kw_1_18 kw_4_18 rfl rfl pd_J0_isLatin1_aae02 ⟨(Nat.le_of_ble_eq_true rfl), (Nat.le_of_ble_eq_true rfl)⟩ dJ0_charAt_5068e_1 rfl (Nat.le_of_ble_eq_true rfl) ⟨(Nat.le_of_ble_eq_true rfl), (Nat.le_of_ble_eq_true rfl)⟩ rfl (fun r1 u1 h => ?_)
  refine a_if_eq (tgt := 16) C dJ0_charAt_5068e_4 (by decide) rfl (fun hc => ?_) (fun hc => ?_)
  · replace h := h.1 hc
    exact h.elim
  · replace h := h.2 hc
    refine a_aload_n C dJ0_charAt_5068e_7 rfl 0 rfl rfl ?_
    refine a_strv C dJ0_charAt_5068e_8 ho kw_7_221 rfl ?_
    refine a_iload_n C dJ0_charAt_5068e_11 rfl 1 rfl rfl ?_
    refine a_callSI C (c_J1_charAt_3b067 l G cy L E hE u1 o a1 ho _ h) kw_4_19 kw_4_20 kw_1_19 kw_4_21 rfl rfl pd_J1_charAt_3b067 ⟨(Nat.le_of_ble_eq_true rfl), (Nat.le_of_ble_eq_true rfl)⟩ dJ0_charAt_5068e_12 rfl (Nat.le_of_ble_eq_true rfl) ⟨(Nat.le_of_ble_eq_true rfl), (Nat.le_of_ble_eq_true rfl)⟩ rfl (fun r12 u12 h => ?_)
    obtain ⟨q15, h⟩ := h
    exact a_zret C dJ0_charAt_5068e_15 hr hlocks (Nat.le_of_ble_eq_true rfl) (Nat.le_of_ble_eq_true rfl) q15 h

/-! CensusWalk$Tokens.isWord(Ljava/lang/String;)Z -/
theorem pd_X6_isWord : (⟨"CensusWalk$Tokens", "isWord", "(Ljava/lang/String;)Z"⟩ : MethodName).cls = "CensusWalk$Tokens" ∧ (⟨"CensusWalk$Tokens", "isWord", "(Ljava/lang/String;)Z"⟩ : MethodName).cls ≠ "java/lang/invoke/MethodHandle" ∧ (⟨"CensusWalk$Tokens", "isWord", "(Ljava/lang/String;)Z"⟩ : MethodName).cls ≠ "java/lang/invoke/VarHandle" ∧ (parseMethodDescriptor (⟨"CensusWalk$Tokens", "isWord", "(Ljava/lang/String;)Z"⟩ : MethodName).desc).map (fun d => d.parameters.length) = some 1 := by decide +kernel
def wp_X6_isWord_24 (E : ms_En) (o : Nat) (a1 : Nat) (post : Int32 → ms_St → Prop)  (u : ms_St)  : Prop := post 0 u
set_option maxHeartbeats 4000000 in
set_option maxRecDepth 100000 in
theorem c_X6_isWord_24 {p : Program} {l : Launch} {e : Env} {s : State} {m : MethodId} {args : Array Value} {below : List Frame} {meth : Method} {c : Code} {G : va_G} {cy : Nat → ClassId} {A : Nat → Prop} {L : Nat → Nat} {E : ms_En} (C : ms_Cx p m c cX6_isWord 3 s args (Cond.code ⟨"CensusWalk$Tokens", "isWord", "(Ljava/lang/String;)Z"⟩ prog_8_method_4_code 3 (some .boolean)) "CensusWalk$Tokens" G cy A) (hr : meth.sig.returnType = (some .boolean)) (hlocks : meth.locks = false) (hE : ms_WT E) {o : Nat} {a1 : Nat} {post : Int32 → ms_St → Prop}  (ho : ms_is E o 6) (ha1 : a1 < 33)  (u : ms_St)   (h : wp_X6_isWord_24 E o a1 post u ) : ms_At p l e ({ frames := 4, cells := 0, slots := 0, locals := 85 } : Room) s m args below meth c 3 G cy A L 0 0 (ms_QI below args s G cy L E A post 0 0) E u 24 [] [] := by
  unfold wp_X6_isWord_24 at h
  refine a_iconst (v := 0) C dX6_isWord_24 (by decide) rfl ?_
  exact a_zret C dX6_isWord_25 hr hlocks (Nat.le_of_ble_eq_true rfl) (Nat.le_of_ble_eq_true rfl) rfl h
def wp_X6_isWord_28 (E : ms_En) (o : Nat) (a1 : Nat) (post : Int32 → ms_St → Prop)  : Nat → ms_St → Int32 → Prop
  | 0 => fun _ _ => False
  | n + 1 => fun u x2 => wp_J0_length_8abf5 E u a1 (fun r30 u30 => (r30 ≤ x2 → post 1 u30) ∧ (¬ r30 ≤ x2 → (ms_I u30 o 3 ≠ 0 ∧ ms_is E (Int32.toNatClampNeg (ms_I u30 o 3)) 12) ∧ (vp_in ((ms_I u30 o 1) + x2) (ms_N E (Int32.toNatClampNeg (ms_I u30 o 3))) ∧ (wp_J0_charAt_5068e E u30 a1 x2 (fun r49 u49 => ((ms_I u30 (Int32.toNatClampNeg (ms_I u30 o 3)) (Int32.toNatClampNeg ((ms_I u30 o 1) + x2))) = r49 → wp_X6_isWord_28 E o a1 post n u49 (x2 + 1)) ∧ (¬ (ms_I u30 (Int32.toNatClampNeg (ms_I u30 o 3)) (Int32.toNatClampNeg ((ms_I u30 o 1) + x2))) = r49 → post 0 u49))))))
set_option maxHeartbeats 4000000 in
set_option maxRecDepth 100000 in
theorem c_X6_isWord_28 {p : Program} {l : Launch} {e : Env} {s : State} {m : MethodId} {args : Array Value} {below : List Frame} {meth : Method} {c : Code} {G : va_G} {cy : Nat → ClassId} {A : Nat → Prop} {L : Nat → Nat} {E : ms_En} (C : ms_Cx p m c cX6_isWord 3 s args (Cond.code ⟨"CensusWalk$Tokens", "isWord", "(Ljava/lang/String;)Z"⟩ prog_8_method_4_code 3 (some .boolean)) "CensusWalk$Tokens" G cy A) (hr : meth.sig.returnType = (some .boolean)) (hlocks : meth.locks = false) (hE : ms_WT E) {o : Nat} {a1 : Nat} {post : Int32 → ms_St → Prop}  (ho : ms_is E o 6) (ha1 : a1 < 33)  : ∀ (n : Nat) (u : ms_St) (x2 : Int32), wp_X6_isWord_28 E o a1 post n u x2 → ms_At p l e ({ frames := 4, cells := 0, slots := 0, locals := 85 } : Room) s m args below meth c 3 G cy A L 0 0 (ms_QI below args s G cy L E A post 0 0) E u 28 [(0, .ref (L o)), (1, .ref (cy (100 + a1))), (2, .int x2)] [] := by
  intro n
  induction n with
  | zero =>
    intro u x2  h
    exact absurd h id
  | succ n ih =>
    intro u x2  h
    unfold wp_X6_isWord_28 at h
    refine a_iload_n C dX6_isWord_28 rfl 2 rfl rfl ?_
    refine a_aload_n C dX6_isWord_29 rfl 1 rfl rfl ?_
    refine a_callWI C (c_J0_length_8abf5 l G cy L E hE u a1 ha1 _ h) ha1 kw_4_1 kw_4_2 kw_4_3 kw_1_18 kw_4_4 rfl rfl pd_J0_length_8abf5 ⟨(Nat.le_of_ble_eq_true rfl), (Nat.le_of_ble_eq_true rfl)⟩ dX6_isWord_30 rfl (Nat.le_of_ble_eq_true rfl) ⟨(Nat.le_of_ble_eq_true rfl), (Nat.le_of_ble_eq_true rfl)⟩ rfl (fun r30 u30 h => ?_)
    refine a_icmp_ge (tgt := 63) C dX6_isWord_33 (by decide) rfl (fun hc => ?_) (fun hc => ?_)
    · replace h := h.1 hc
      refine a_iconst (v := 1) C dX6_isWord_63 (by decide) rfl ?_
      exact a_zret C dX6_isWord_64 hr hlocks (Nat.le_of_ble_eq_true rfl) (Nat.le_of_ble_eq_true rfl) rfl h
    · replace h := h.2 hc
      refine a_aload_n C dX6_isWord_36 rfl 0 rfl rfl ?_
      obtain ⟨⟨z37, k37⟩, h⟩ := h
      refine g_6_3 C dX6_isWord_37 ho kw_1_224 rfl z37 ?_
      refine a_aload_n C dX6_isWord_40 rfl 0 rfl rfl ?_
      refine g_6_1 C dX6_isWord_41 ho kw_1_220 rfl ?_
      refine a_iload_n C dX6_isWord_44 rfl 2 rfl rfl ?_
      refine a_iadd C dX6_isWord_45 rfl ?_
      obtain ⟨q46, h⟩ := h
      refine a_bald C dX6_isWord_46 k37 rfl q46 rfl ?_
      refine a_aload_n C dX6_isWord_47 rfl 1 rfl rfl ?_
      refine a_iload_n C dX6_isWord_48 rfl 2 rfl rfl ?_
      refine a_callWI C (c_J0_charAt_5068e l G cy L E hE u30 a1 x2 ha1 _ h) ha1 kw_4_11 kw_4_12 kw_4_13 kw_1_18 kw_4_14 rfl rfl pd_J0_charAt_5068e ⟨(Nat.le_of_ble_eq_true rfl), (Nat.le_of_ble_eq_true rfl)⟩ dX6_isWord_49 rfl (Nat.le_of_ble_eq_true rfl) ⟨(Nat.le_of_ble_eq_true rfl), (Nat.le_of_ble_eq_true rfl)⟩ rfl (fun r49 u49 h => ?_)
      refine a_icmp_eq (tgt := 57) C dX6_isWord_52 (by decide) rfl (fun hc => ?_) (fun hc => ?_)
      · replace h := h.1 hc
        refine a_iinc (lv' := [(0, .ref (L o)), (1, .ref (cy (100 + a1))), (2, .int (x2 + 1))]) (v := (x2 + 1)) C dX6_isWord_57 2 rfl (congrArg (fun z => x2 + z) (by decide)) (by decide) [1, 2, 0] rfl rfl ?_
        refine a_goto (tgt := 28) C dX6_isWord_60 (by decide) ?_
        exact ih u49 (x2 + 1)  h
      · replace h := h.2 hc
        refine a_iconst (v := 0) C dX6_isWord_55 (by decide) rfl ?_
        exact a_zret C dX6_isWord_56 hr hlocks (Nat.le_of_ble_eq_true rfl) (Nat.le_of_ble_eq_true rfl) rfl h
def wp_X6_isWord (E : ms_En) (u : ms_St) (o : Nat) (a1 : Nat) (post : Int32 → ms_St → Prop) : Prop := ((ms_I u o 0) = 2 → wp_J0_length_8abf5 E u a1 (fun r18 u18 => (((ms_I u o 5) - (ms_I u o 1)) = r18 → ∃ n28, wp_X6_isWord_28 E o a1 post n28 u18 0) ∧ (¬ ((ms_I u o 5) - (ms_I u o 1)) = r18 → wp_X6_isWord_24 E o a1 post u18))) ∧ (¬ (ms_I u o 0) = 2 → wp_X6_isWord_24 E o a1 post u)
set_option maxHeartbeats 4000000 in
set_option maxRecDepth 100000 in
theorem c_X6_isWord (l : Launch) (G : va_G) (cy : Nat → ClassId) (L : Nat → Nat) (E : ms_En) (hE : ms_WT E) (u : ms_St) (o : Nat) (a1 : Nat) (ho : ms_is E o 6) (ha1 : a1 < 33) (post : Int32 → ms_St → Prop) (h : wp_X6_isWord E u o a1 post) : ms_MetI l ⟨"CensusWalk$Tokens", "isWord", "(Ljava/lang/String;)Z"⟩ (Cond.code ⟨"CensusWalk$Tokens", "isWord", "(Ljava/lang/String;)Z"⟩ prog_8_method_4_code 3 (some .boolean) :: lw_g) ({ frames := 4, cells := 0, slots := 0, locals := 85 } : Room) G cy L E [.ref (L o), .ref (cy (100 + a1))] u post 0 0 := by
  refine ms_enterI (lv := [(0, .ref (L o)), (1, .ref (cy (100 + a1)))]) (by decide) (Nat.le_of_ble_eq_true rfl) rfl ?_
  intro p e s m args below meth c A C hr hlocks
  unfold wp_X6_isWord at h
  refine a_aload_n C dX6_isWord_0 rfl 0 rfl rfl ?_
  refine g_6_0 C dX6_isWord_1 ho kw_1_218 rfl ?_
  refine a_iconst (v := 2) C dX6_isWord_4 (by decide) rfl ?_
  refine a_icmp_ne (tgt := 24) C dX6_isWord_5 (by decide) rfl (fun hc => ?_) (fun hc => ?_)
  · replace h := h.2 hc
    refine a_sub (lv' := []) [] rfl ?_
    exact c_X6_isWord_24 C hr hlocks hE ho ha1  u  h
  · replace h := h.1 hc
    refine a_aload_n C dX6_isWord_8 rfl 0 rfl rfl ?_
    refine g_6_5 C dX6_isWord_9 ho kw_1_226 rfl ?_
    refine a_aload_n C dX6_isWord_12 rfl 0 rfl rfl ?_
    refine g_6_1 C dX6_isWord_13 ho kw_1_220 rfl ?_
    refine a_isub C dX6_isWord_16 rfl ?_
    refine a_aload_n C dX6_isWord_17 rfl 1 rfl rfl ?_
    refine a_callWI C (c_J0_length_8abf5 l G cy L E hE u a1 ha1 _ h) ha1 kw_4_1 kw_4_2 kw_4_3 kw_1_18 kw_4_4 rfl rfl pd_J0_length_8abf5 ⟨(Nat.le_of_ble_eq_true rfl), (Nat.le_of_ble_eq_true rfl)⟩ dX6_isWord_18 rfl (Nat.le_of_ble_eq_true rfl) ⟨(Nat.le_of_ble_eq_true rfl), (Nat.le_of_ble_eq_true rfl)⟩ rfl (fun r18 u18 h => ?_)
    refine a_icmp_eq (tgt := 26) C dX6_isWord_21 (by decide) rfl (fun hc => ?_) (fun hc => ?_)
    · replace h := h.1 hc
      refine a_iconst (v := 0) C dX6_isWord_26 (by decide) rfl ?_
      refine a_istore_n (lv' := [(0, .ref (L o)), (1, .ref (cy (100 + a1))), (2, .int 0)]) C dX6_isWord_27 rfl (by decide) [1, 2, 0] rfl rfl ?_
      obtain ⟨n9, h⟩ := h
      exact c_X6_isWord_28 C hr hlocks hE ho ha1  n9 u18 0  h
    · replace h := h.2 hc
      refine a_sub (lv' := []) [] rfl ?_
      exact c_X6_isWord_24 C hr hlocks hE ho ha1  u18  h

/-! CensusWalkModel.isGood()Z -/
theorem pd_X11_isGood : (⟨"CensusWalkModel", "isGood", "()Z"⟩ : MethodName).cls = "CensusWalkModel" ∧ (⟨"CensusWalkModel", "isGood", "()Z"⟩ : MethodName).cls ≠ "java/lang/invoke/MethodHandle" ∧ (⟨"CensusWalkModel", "isGood", "()Z"⟩ : MethodName).cls ≠ "java/lang/invoke/VarHandle" ∧ (parseMethodDescriptor (⟨"CensusWalkModel", "isGood", "()Z"⟩ : MethodName).desc).map (fun d => d.parameters.length) = some 0 := by decide +kernel
def wp_X11_isGood_12 (E : ms_En) (o : Nat) (post : Int32 → ms_St → Prop)  (u : ms_St) (z0 : Int32) : Prop := (z0 = 0 ∨ z0 = 1) ∧ (post z0 u)
set_option maxHeartbeats 4000000 in
set_option maxRecDepth 100000 in
theorem c_X11_isGood_12 {p : Program} {l : Launch} {e : Env} {s : State} {m : MethodId} {args : Array Value} {below : List Frame} {meth : Method} {c : Code} {G : va_G} {cy : Nat → ClassId} {A : Nat → Prop} {L : Nat → Nat} {E : ms_En} (C : ms_Cx p m c cX11_isGood 1 s args (Cond.code ⟨"CensusWalkModel", "isGood", "()Z"⟩ prog_13_method_13_code 1 (some .boolean)) "CensusWalkModel" G cy A) (hr : meth.sig.returnType = (some .boolean)) (hlocks : meth.locks = false) (hE : ms_WT E) {o : Nat} {post : Int32 → ms_St → Prop}  (ho : ms_is E o 11)  (u : ms_St) (z0 : Int32)  (h : wp_X11_isGood_12 E o post u z0) : ms_At p l e ({ frames := 0, cells := 0, slots := 0, locals := 0 } : Room) s m args below meth c 1 G cy A L 0 0 (ms_QI below args s G cy L E A post 0 0) E u 12 [] [.int z0] := by
  unfold wp_X11_isGood_12 at h
  obtain ⟨q12, h⟩ := h
  exact a_zret C dX11_isGood_12 hr hlocks (Nat.le_of_ble_eq_true rfl) (Nat.le_of_ble_eq_true rfl) (ms_nz q12) h
def wp_X11_isGood (E : ms_En) (u : ms_St) (o : Nat) (post : Int32 → ms_St → Prop) : Prop := ((ms_I u o 5) = 0 → wp_X11_isGood_12 E o post u 1) ∧ (¬ (ms_I u o 5) = 0 → wp_X11_isGood_12 E o post u 0)
set_option maxHeartbeats 4000000 in
set_option maxRecDepth 100000 in
theorem c_X11_isGood (l : Launch) (G : va_G) (cy : Nat → ClassId) (L : Nat → Nat) (E : ms_En) (hE : ms_WT E) (u : ms_St) (o : Nat) (ho : ms_is E o 11) (post : Int32 → ms_St → Prop) (h : wp_X11_isGood E u o post) : ms_MetI l ⟨"CensusWalkModel", "isGood", "()Z"⟩ (Cond.code ⟨"CensusWalkModel", "isGood", "()Z"⟩ prog_13_method_13_code 1 (some .boolean) :: lw_g) ({ frames := 0, cells := 0, slots := 0, locals := 0 } : Room) G cy L E [.ref (L o)] u post 0 0 := by
  refine ms_enterI (lv := [(0, .ref (L o))]) (by decide) (Nat.le_of_ble_eq_true rfl) rfl ?_
  intro p e s m args below meth c A C hr hlocks
  unfold wp_X11_isGood at h
  refine a_aload_n C dX11_isGood_0 rfl 0 rfl rfl ?_
  refine g_11_5 C dX11_isGood_1 ho kw_5_227 rfl ?_
  refine a_if_ne (tgt := 11) C dX11_isGood_4 (by decide) rfl (fun hc => ?_) (fun hc => ?_)
  · replace h := h.2 hc
    refine a_iconst (v := 0) C dX11_isGood_11 (by decide) rfl ?_
    refine a_sub (lv' := []) [] rfl ?_
    exact c_X11_isGood_12 C hr hlocks hE ho  u 0  h
  · replace h := h.1 hc
    refine a_iconst (v := 1) C dX11_isGood_7 (by decide) rfl ?_
    refine a_goto (tgt := 12) C dX11_isGood_8 (by decide) ?_
    refine a_sub (lv' := []) [] rfl ?_
    exact c_X11_isGood_12 C hr hlocks hE ho  u 1  h

/-! CensusWalkModel.byteAt(I)I -/
theorem pd_X11_byteAt : (⟨"CensusWalkModel", "byteAt", "(I)I"⟩ : MethodName).cls = "CensusWalkModel" ∧ (⟨"CensusWalkModel", "byteAt", "(I)I"⟩ : MethodName).cls ≠ "java/lang/invoke/MethodHandle" ∧ (⟨"CensusWalkModel", "byteAt", "(I)I"⟩ : MethodName).cls ≠ "java/lang/invoke/VarHandle" ∧ (parseMethodDescriptor (⟨"CensusWalkModel", "byteAt", "(I)I"⟩ : MethodName).desc).map (fun d => d.parameters.length) = some 1 := by decide +kernel
def wp_X11_byteAt_18 (E : ms_En) (o : Nat) (a1 : Int32) (post : Int32 → ms_St → Prop)  (u : ms_St) (z0 : Int32) : Prop := post z0 u
set_option maxHeartbeats 4000000 in
set_option maxRecDepth 100000 in
theorem c_X11_byteAt_18 {p : Program} {l : Launch} {e : Env} {s : State} {m : MethodId} {args : Array Value} {below : List Frame} {meth : Method} {c : Code} {G : va_G} {cy : Nat → ClassId} {A : Nat → Prop} {L : Nat → Nat} {E : ms_En} (C : ms_Cx p m c cX11_byteAt 2 s args (Cond.code ⟨"CensusWalkModel", "byteAt", "(I)I"⟩ prog_13_method_11_code 2 (some .int)) "CensusWalkModel" G cy A) (hr : meth.sig.returnType = (some .int)) (hlocks : meth.locks = false) (hE : ms_WT E) {o : Nat} {a1 : Int32} {post : Int32 → ms_St → Prop}  (ho : ms_is E o 11)  (u : ms_St) (z0 : Int32)  (h : wp_X11_byteAt_18 E o a1 post u z0) : ms_At p l e ({ frames := 0, cells := 0, slots := 0, locals := 0 } : Room) s m args below meth c 2 G cy A L 0 0 (ms_QI below args s G cy L E A post 0 0) E u 18 [] [.int z0] := by
  unfold wp_X11_byteAt_18 at h
  exact a_iret C dX11_byteAt_18 hr hlocks (Nat.le_of_ble_eq_true rfl) (Nat.le_of_ble_eq_true rfl) h
def wp_X11_byteAt (E : ms_En) (u : ms_St) (o : Nat) (a1 : Int32) (post : Int32 → ms_St → Prop) : Prop := ((ms_I u o 3) ≤ a1 → wp_X11_byteAt_18 E o a1 post u (-1)) ∧ (¬ (ms_I u o 3) ≤ a1 → vp_in a1 900 ∧ (wp_X11_byteAt_18 E o a1 post u (ms_I u (ms_at E o 1) (Int32.toNatClampNeg a1))))
set_option maxHeartbeats 4000000 in
set_option maxRecDepth 100000 in
theorem c_X11_byteAt (l : Launch) (G : va_G) (cy : Nat → ClassId) (L : Nat → Nat) (E : ms_En) (hE : ms_WT E) (u : ms_St) (o : Nat) (a1 : Int32) (ho : ms_is E o 11) (post : Int32 → ms_St → Prop) (h : wp_X11_byteAt E u o a1 post) : ms_MetI l ⟨"CensusWalkModel", "byteAt", "(I)I"⟩ (Cond.code ⟨"CensusWalkModel", "byteAt", "(I)I"⟩ prog_13_method_11_code 2 (some .int) :: lw_g) ({ frames := 0, cells := 0, slots := 0, locals := 0 } : Room) G cy L E [.ref (L o), .int a1] u post 0 0 := by
  refine ms_enterI (lv := [(0, .ref (L o)), (1, .int a1)]) (by decide) (Nat.le_of_ble_eq_true rfl) rfl ?_
  intro p e s m args below meth c A C hr hlocks
  unfold wp_X11_byteAt at h
  refine a_iload_n C dX11_byteAt_0 rfl 1 rfl rfl ?_
  refine a_aload_n C dX11_byteAt_1 rfl 0 rfl rfl ?_
  refine g_11_3 C dX11_byteAt_2 ho kw_5_225 rfl ?_
  refine a_icmp_ge (tgt := 17) C dX11_byteAt_5 (by decide) rfl (fun hc => ?_) (fun hc => ?_)
  · replace h := h.1 hc
    refine a_iconst (v := (-1)) C dX11_byteAt_17 (by decide) rfl ?_
    refine a_sub (lv' := []) [] rfl ?_
    exact c_X11_byteAt_18 C hr hlocks hE ho  u (-1)  h
  · replace h := h.2 hc
    refine a_aload_n C dX11_byteAt_8 rfl 0 rfl rfl ?_
    refine g_11_1 C hE dX11_byteAt_9 ho kw_5_223 rfl ?_
    have k9 : ms_is E (ms_at E o 1) 13 := ms_wt hE ho rfl (by decide)
    have n9 : ms_N E (ms_at E o 1) = 900 := ms_wl hE ho (by decide) (by decide) rfl
    refine a_iload_n C dX11_byteAt_12 rfl 1 rfl rfl ?_
    obtain ⟨q13, h⟩ := h
    refine a_iald C dX11_byteAt_13 k9 n9 q13 rfl ?_
    refine a_goto (tgt := 18) C dX11_byteAt_14 (by decide) ?_
    refine a_sub (lv' := []) [] rfl ?_
    exact c_X11_byteAt_18 C hr hlocks hE ho  u (ms_I u (ms_at E o 1) (Int32.toNatClampNeg a1))  h

/-! CensusWalkModel.next()I -/
theorem pd_X11_next : (⟨"CensusWalkModel", "next", "()I"⟩ : MethodName).cls = "CensusWalkModel" ∧ (⟨"CensusWalkModel", "next", "()I"⟩ : MethodName).cls ≠ "java/lang/invoke/MethodHandle" ∧ (⟨"CensusWalkModel", "next", "()I"⟩ : MethodName).cls ≠ "java/lang/invoke/VarHandle" ∧ (parseMethodDescriptor (⟨"CensusWalkModel", "next", "()I"⟩ : MethodName).desc).map (fun d => d.parameters.length) = some 0 := by decide +kernel
def wp_X11_next_0 (E : ms_En) (o : Nat) (post : Int32 → ms_St → Prop)  : Nat → ms_St → Prop
  | 0 => fun _  => False
  | n + 1 => fun u  => wp_X11_byteAt E u o (ms_I u o 4) (fun r5 u5 => (r5 = 32 → wp_X11_next_0 E o post n (ms_sI u5 o 4 ((ms_I u5 o 4) + 1))) ∧ (¬ r5 = 32 → wp_X11_byteAt E u5 o (ms_I u5 o 4) (fun r31 u31 => post r31 u31)))
set_option maxHeartbeats 4000000 in
set_option maxRecDepth 100000 in
theorem c_X11_next_0 {p : Program} {l : Launch} {e : Env} {s : State} {m : MethodId} {args : Array Value} {below : List Frame} {meth : Method} {c : Code} {G : va_G} {cy : Nat → ClassId} {A : Nat → Prop} {L : Nat → Nat} {E : ms_En} (C : ms_Cx p m c cX11_next 1 s args (Cond.code ⟨"CensusWalkModel", "next", "()I"⟩ prog_13_method_12_code 1 (some .int)) "CensusWalkModel" G cy A) (hr : meth.sig.returnType = (some .int)) (hlocks : meth.locks = false) (hE : ms_WT E) {o : Nat} {post : Int32 → ms_St → Prop}  (ho : ms_is E o 11)  : ∀ (n : Nat) (u : ms_St) , wp_X11_next_0 E o post n u  → ms_At p l e ({ frames := 1, cells := 0, slots := 0, locals := 21 } : Room) s m args below meth c 1 G cy A L 0 0 (ms_QI below args s G cy L E A post 0 0) E u 0 [(0, .ref (L o))] [] := by
  intro n
  induction n with
  | zero =>
    intro u   h
    exact absurd h id
  | succ n ih =>
    intro u   h
    unfold wp_X11_next_0 at h
    refine a_aload_n C dX11_next_0 rfl 0 rfl rfl ?_
    refine a_aload_n C dX11_next_1 rfl 0 rfl rfl ?_
    refine g_11_4 C dX11_next_2 ho kw_5_226 rfl ?_
    refine a_callVI C (c_X11_byteAt l G cy L E hE u o (ms_I u o 4) ho _ h) ho rfl (by decide) kw_6_118 kw_6_120 kp_47 kw_1_12 kw_6_121 rfl rfl pd_X11_byteAt ⟨(Nat.le_of_ble_eq_true rfl), (Nat.le_of_ble_eq_true rfl)⟩ dX11_next_5 rfl (Nat.le_of_ble_eq_true rfl) ⟨(Nat.le_of_ble_eq_true rfl), (Nat.le_of_ble_eq_true rfl)⟩ rfl (fun r5 u5 h => ?_)
    refine a_bipush (v := 32) C dX11_next_8 (by decide) rfl ?_
    refine a_icmp_ne (tgt := 26) C dX11_next_10 (by decide) rfl (fun hc => ?_) (fun hc => ?_)
    · replace h := h.2 hc
      refine a_aload_n C dX11_next_26 rfl 0 rfl rfl ?_
      refine a_aload_n C dX11_next_27 rfl 0 rfl rfl ?_
      refine g_11_4 C dX11_next_28 ho kw_5_226 rfl ?_
      refine a_callVI C (c_X11_byteAt l G cy L E hE u5 o (ms_I u5 o 4) ho _ h) ho rfl (by decide) kw_6_118 kw_6_120 kp_47 kw_1_12 kw_6_121 rfl rfl pd_X11_byteAt ⟨(Nat.le_of_ble_eq_true rfl), (Nat.le_of_ble_eq_true rfl)⟩ dX11_next_31 rfl (Nat.le_of_ble_eq_true rfl) ⟨(Nat.le_of_ble_eq_true rfl), (Nat.le_of_ble_eq_true rfl)⟩ rfl (fun r31 u31 h => ?_)
      exact a_iret C dX11_next_34 hr hlocks (Nat.le_of_ble_eq_true rfl) (Nat.le_of_ble_eq_true rfl) h
    · replace h := h.1 hc
      refine a_aload_n C dX11_next_13 rfl 0 rfl rfl ?_
      refine a_dup C dX11_next_14 rfl rfl ?_
      refine g_11_4 C dX11_next_15 ho kw_5_226 rfl ?_
      refine a_iconst (v := 1) C dX11_next_18 (by decide) rfl ?_
      refine a_iadd C dX11_next_19 rfl ?_
      refine s_11_4 C dX11_next_20 ho kw_5_226 rfl ?_
      refine a_goto (tgt := 0) C dX11_next_23 (by decide) ?_
      exact ih (ms_sI u5 o 4 ((ms_I u5 o 4) + 1))  h
def wp_X11_next (E : ms_En) (u : ms_St) (o : Nat) (post : Int32 → ms_St → Prop) : Prop := ∃ n0, wp_X11_next_0 E o post n0 u
set_option maxHeartbeats 4000000 in
set_option maxRecDepth 100000 in
theorem c_X11_next (l : Launch) (G : va_G) (cy : Nat → ClassId) (L : Nat → Nat) (E : ms_En) (hE : ms_WT E) (u : ms_St) (o : Nat) (ho : ms_is E o 11) (post : Int32 → ms_St → Prop) (h : wp_X11_next E u o post) : ms_MetI l ⟨"CensusWalkModel", "next", "()I"⟩ (Cond.code ⟨"CensusWalkModel", "next", "()I"⟩ prog_13_method_12_code 1 (some .int) :: lw_g) ({ frames := 1, cells := 0, slots := 0, locals := 21 } : Room) G cy L E [.ref (L o)] u post 0 0 := by
  refine ms_enterI (lv := [(0, .ref (L o))]) (by decide) (Nat.le_of_ble_eq_true rfl) rfl ?_
  intro p e s m args below meth c A C hr hlocks
  unfold wp_X11_next at h
  obtain ⟨n9, h⟩ := h
  exact c_X11_next_0 C hr hlocks hE ho  n9 u  h

/-! CensusWalkModel.in(III)Z -/
theorem pd_X11_in : (⟨"CensusWalkModel", "in", "(III)Z"⟩ : MethodName).cls ≠ "java/lang/invoke/MethodHandle" ∧ (⟨"CensusWalkModel", "in", "(III)Z"⟩ : MethodName).cls ≠ "java/lang/invoke/VarHandle" ∧ (parseMethodDescriptor (⟨"CensusWalkModel", "in", "(III)Z"⟩ : MethodName).desc).map (fun d => d.parameters.length) = some 3 := by decide +kernel
def wp_X11_in_15 (E : ms_En) (a0 : Int32) (a1 : Int32) (a2 : Int32) (post : Int32 → ms_St → Prop)  (u : ms_St) (z0 : Int32) : Prop := (z0 = 0 ∨ z0 = 1) ∧ (post z0 u)
set_option maxHeartbeats 4000000 in
set_option maxRecDepth 100000 in
theorem c_X11_in_15 {p : Program} {l : Launch} {e : Env} {s : State} {m : MethodId} {args : Array Value} {below : List Frame} {meth : Method} {c : Code} {G : va_G} {cy : Nat → ClassId} {A : Nat → Prop} {L : Nat → Nat} {E : ms_En} (C : ms_Cx p m c cX11_in 3 s args (Cond.code ⟨"CensusWalkModel", "in", "(III)Z"⟩ prog_13_method_4_code 3 (some .boolean)) "CensusWalkModel" G cy A) (hr : meth.sig.returnType = (some .boolean)) (hlocks : meth.locks = false) (hE : ms_WT E) {a0 : Int32} {a1 : Int32} {a2 : Int32} {post : Int32 → ms_St → Prop}    (u : ms_St) (z0 : Int32)  (h : wp_X11_in_15 E a0 a1 a2 post u z0) : ms_At p l e ({ frames := 0, cells := 0, slots := 0, locals := 0 } : Room) s m args below meth c 3 G cy A L 0 0 (ms_QI below args s G cy L E A post 0 0) E u 15 [] [.int z0] := by
  unfold wp_X11_in_15 at h
  obtain ⟨q15, h⟩ := h
  exact a_zret C dX11_in_15 hr hlocks (Nat.le_of_ble_eq_true rfl) (Nat.le_of_ble_eq_true rfl) (ms_nz q15) h
def wp_X11_in_14 (E : ms_En) (a0 : Int32) (a1 : Int32) (a2 : Int32) (post : Int32 → ms_St → Prop)  (u : ms_St)  : Prop := wp_X11_in_15 E a0 a1 a2 post u 0
set_option maxHeartbeats 4000000 in
set_option maxRecDepth 100000 in
theorem c_X11_in_14 {p : Program} {l : Launch} {e : Env} {s : State} {m : MethodId} {args : Array Value} {below : List Frame} {meth : Method} {c : Code} {G : va_G} {cy : Nat → ClassId} {A : Nat → Prop} {L : Nat → Nat} {E : ms_En} (C : ms_Cx p m c cX11_in 3 s args (Cond.code ⟨"CensusWalkModel", "in", "(III)Z"⟩ prog_13_method_4_code 3 (some .boolean)) "CensusWalkModel" G cy A) (hr : meth.sig.returnType = (some .boolean)) (hlocks : meth.locks = false) (hE : ms_WT E) {a0 : Int32} {a1 : Int32} {a2 : Int32} {post : Int32 → ms_St → Prop}    (u : ms_St)   (h : wp_X11_in_14 E a0 a1 a2 post u ) : ms_At p l e ({ frames := 0, cells := 0, slots := 0, locals := 0 } : Room) s m args below meth c 3 G cy A L 0 0 (ms_QI below args s G cy L E A post 0 0) E u 14 [] [] := by
  unfold wp_X11_in_14 at h
  refine a_iconst (v := 0) C dX11_in_14 (by decide) rfl ?_
  exact c_X11_in_15 C hr hlocks hE   u 0  h
def wp_X11_in (E : ms_En) (u : ms_St) (a0 : Int32) (a1 : Int32) (a2 : Int32) (post : Int32 → ms_St → Prop) : Prop := (a0 < a1 → wp_X11_in_14 E a0 a1 a2 post u) ∧ (¬ a0 < a1 → (a2 < a0 → wp_X11_in_14 E a0 a1 a2 post u) ∧ (¬ a2 < a0 → wp_X11_in_15 E a0 a1 a2 post u 1))
set_option maxHeartbeats 4000000 in
set_option maxRecDepth 100000 in
theorem c_X11_in (l : Launch) (G : va_G) (cy : Nat → ClassId) (L : Nat → Nat) (E : ms_En) (hE : ms_WT E) (u : ms_St) (a0 : Int32) (a1 : Int32) (a2 : Int32)  (post : Int32 → ms_St → Prop) (h : wp_X11_in E u a0 a1 a2 post) : ms_MetI l ⟨"CensusWalkModel", "in", "(III)Z"⟩ (Cond.code ⟨"CensusWalkModel", "in", "(III)Z"⟩ prog_13_method_4_code 3 (some .boolean) :: lw_g) ({ frames := 0, cells := 0, slots := 0, locals := 0 } : Room) G cy L E [.int a0, .int a1, .int a2] u post 0 0 := by
  refine ms_enterI (lv := [(0, .int a0), (1, .int a1), (2, .int a2)]) (by decide) (Nat.le_of_ble_eq_true rfl) rfl ?_
  intro p e s m args below meth c A C hr hlocks
  unfold wp_X11_in at h
  refine a_iload_n C dX11_in_0 rfl 0 rfl rfl ?_
  refine a_iload_n C dX11_in_1 rfl 1 rfl rfl ?_
  refine a_icmp_lt (tgt := 14) C dX11_in_2 (by decide) rfl (fun hc => ?_) (fun hc => ?_)
  · replace h := h.1 hc
    refine a_sub (lv' := []) [] rfl ?_
    exact c_X11_in_14 C hr hlocks hE   u  h
  · replace h := h.2 hc
    refine a_iload_n C dX11_in_5 rfl 0 rfl rfl ?_
    refine a_iload_n C dX11_in_6 rfl 2 rfl rfl ?_
    refine a_icmp_gt (tgt := 14) C dX11_in_7 (by decide) rfl (fun hc => ?_) (fun hc => ?_)
    · replace h := h.1 hc
      refine a_sub (lv' := []) [] rfl ?_
      exact c_X11_in_14 C hr hlocks hE   u  h
    · replace h := h.2 hc
      refine a_iconst (v := 1) C dX11_in_10 (by decide) rfl ?_
      refine a_goto (tgt := 15) C dX11_in_11 (by decide) ?_
      refine a_sub (lv' := []) [] rfl ?_
      exact c_X11_in_15 C hr hlocks hE   u 1  h

/-! CensusWalkModel.takeWord(Ljava/lang/String;)Z -/
theorem pd_X11_takeWord : (⟨"CensusWalkModel", "takeWord", "(Ljava/lang/String;)Z"⟩ : MethodName).cls = "CensusWalkModel" ∧ (⟨"CensusWalkModel", "takeWord", "(Ljava/lang/String;)Z"⟩ : MethodName).cls ≠ "java/lang/invoke/MethodHandle" ∧ (⟨"CensusWalkModel", "takeWord", "(Ljava/lang/String;)Z"⟩ : MethodName).cls ≠ "java/lang/invoke/VarHandle" ∧ (parseMethodDescriptor (⟨"CensusWalkModel", "takeWord", "(Ljava/lang/String;)Z"⟩ : MethodName).desc).map (fun d => d.parameters.length) = some 1 := by decide +kernel
def wp_X11_takeWord_76 (E : ms_En) (o : Nat) (a1 : Nat) (post : Int32 → ms_St → Prop)  (u : ms_St)  : Prop := post 0 u
set_option maxHeartbeats 4000000 in
set_option maxRecDepth 100000 in
theorem c_X11_takeWord_76 {p : Program} {l : Launch} {e : Env} {s : State} {m : MethodId} {args : Array Value} {below : List Frame} {meth : Method} {c : Code} {G : va_G} {cy : Nat → ClassId} {A : Nat → Prop} {L : Nat → Nat} {E : ms_En} (C : ms_Cx p m c cX11_takeWord 3 s args (Cond.code ⟨"CensusWalkModel", "takeWord", "(Ljava/lang/String;)Z"⟩ prog_13_method_16_code 3 (some .boolean)) "CensusWalkModel" G cy A) (hr : meth.sig.returnType = (some .boolean)) (hlocks : meth.locks = false) (hE : ms_WT E) {o : Nat} {a1 : Nat} {post : Int32 → ms_St → Prop}  (ho : ms_is E o 11) (ha1 : a1 < 33)  (u : ms_St)   (h : wp_X11_takeWord_76 E o a1 post u ) : ms_At p l e ({ frames := 4, cells := 0, slots := 0, locals := 85 } : Room) s m args below meth c 3 G cy A L 0 0 (ms_QI below args s G cy L E A post 0 0) E u 76 [] [] := by
  unfold wp_X11_takeWord_76 at h
  refine a_iconst (v := 0) C dX11_takeWord_76 (by decide) rfl ?_
  exact a_zret C dX11_takeWord_77 hr hlocks (Nat.le_of_ble_eq_true rfl) (Nat.le_of_ble_eq_true rfl) rfl h
def wp_X11_takeWord_48 (E : ms_En) (o : Nat) (a1 : Nat) (post : Int32 → ms_St → Prop)  (u : ms_St) (x2 : Int32) : Prop := wp_J0_length_8abf5 E u a1 (fun r50 u50 => (x2 < r50 → wp_X11_takeWord_76 E o a1 post u50) ∧ (¬ x2 < r50 → wp_X11_byteAt E u50 o ((ms_I u50 o 4) + x2) (fun r63 u63 => wp_X11_in E u63 r63 97 122 (fun r70 u70 => (r70 = 0 → post 1 (ms_sI u70 o 4 ((ms_I u70 o 4) + x2))) ∧ (¬ r70 = 0 → wp_X11_takeWord_76 E o a1 post u70)))))
set_option maxHeartbeats 4000000 in
set_option maxRecDepth 100000 in
theorem c_X11_takeWord_48 {p : Program} {l : Launch} {e : Env} {s : State} {m : MethodId} {args : Array Value} {below : List Frame} {meth : Method} {c : Code} {G : va_G} {cy : Nat → ClassId} {A : Nat → Prop} {L : Nat → Nat} {E : ms_En} (C : ms_Cx p m c cX11_takeWord 3 s args (Cond.code ⟨"CensusWalkModel", "takeWord", "(Ljava/lang/String;)Z"⟩ prog_13_method_16_code 3 (some .boolean)) "CensusWalkModel" G cy A) (hr : meth.sig.returnType = (some .boolean)) (hlocks : meth.locks = false) (hE : ms_WT E) {o : Nat} {a1 : Nat} {post : Int32 → ms_St → Prop}  (ho : ms_is E o 11) (ha1 : a1 < 33)  (u : ms_St) (x2 : Int32)  (h : wp_X11_takeWord_48 E o a1 post u x2) : ms_At p l e ({ frames := 4, cells := 0, slots := 0, locals := 85 } : Room) s m args below meth c 3 G cy A L 0 0 (ms_QI below args s G cy L E A post 0 0) E u 48 [(0, .ref (L o)), (1, .ref (cy (100 + a1))), (2, .int x2)] [] := by
  unfold wp_X11_takeWord_48 at h
  refine a_iload_n C dX11_takeWord_48 rfl 2 rfl rfl ?_
  refine a_aload_n C dX11_takeWord_49 rfl 1 rfl rfl ?_
  refine a_callWI C (c_J0_length_8abf5 l G cy L E hE u a1 ha1 _ h) ha1 kw_6_122 kw_4_2 kw_4_3 kw_1_18 kw_4_4 rfl rfl pd_J0_length_8abf5 ⟨(Nat.le_of_ble_eq_true rfl), (Nat.le_of_ble_eq_true rfl)⟩ dX11_takeWord_50 rfl (Nat.le_of_ble_eq_true rfl) ⟨(Nat.le_of_ble_eq_true rfl), (Nat.le_of_ble_eq_true rfl)⟩ rfl (fun r50 u50 h => ?_)
  refine a_icmp_lt (tgt := 76) C dX11_takeWord_53 (by decide) rfl (fun hc => ?_) (fun hc => ?_)
  · replace h := h.1 hc
    refine a_sub (lv' := []) [] rfl ?_
    exact c_X11_takeWord_76 C hr hlocks hE ho ha1  u50  h
  · replace h := h.2 hc
    refine a_aload_n C dX11_takeWord_56 rfl 0 rfl rfl ?_
    refine a_aload_n C dX11_takeWord_57 rfl 0 rfl rfl ?_
    refine g_11_4 C dX11_takeWord_58 ho kw_5_226 rfl ?_
    refine a_iload_n C dX11_takeWord_61 rfl 2 rfl rfl ?_
    refine a_iadd C dX11_takeWord_62 rfl ?_
    refine a_callVI C (c_X11_byteAt l G cy L E hE u50 o ((ms_I u50 o 4) + x2) ho _ h) ho rfl (by decide) kw_6_118 kw_6_120 kp_47 kw_1_12 kw_6_121 rfl rfl pd_X11_byteAt ⟨(Nat.le_of_ble_eq_true rfl), (Nat.le_of_ble_eq_true rfl)⟩ dX11_takeWord_63 rfl (Nat.le_of_ble_eq_true rfl) ⟨(Nat.le_of_ble_eq_true rfl), (Nat.le_of_ble_eq_true rfl)⟩ rfl (fun r63 u63 h => ?_)
    refine a_bipush (v := 97) C dX11_takeWord_66 (by decide) rfl ?_
    refine a_bipush (v := 122) C dX11_takeWord_68 (by decide) rfl ?_
    refine a_callSI C (c_X11_in l G cy L E hE u63 r63 97 122  _ h) kw_6_98 kw_6_99 kw_1_12 kw_6_100 rfl rfl pd_X11_in ⟨(Nat.le_of_ble_eq_true rfl), (Nat.le_of_ble_eq_true rfl)⟩ dX11_takeWord_70 rfl (Nat.le_of_ble_eq_true rfl) ⟨(Nat.le_of_ble_eq_true rfl), (Nat.le_of_ble_eq_true rfl)⟩ rfl (fun r70 u70 h => ?_)
    refine a_if_eq (tgt := 78) C dX11_takeWord_73 (by decide) rfl (fun hc => ?_) (fun hc => ?_)
    · replace h := h.1 hc
      refine a_aload_n C dX11_takeWord_78 rfl 0 rfl rfl ?_
      refine a_dup C dX11_takeWord_79 rfl rfl ?_
      refine g_11_4 C dX11_takeWord_80 ho kw_5_226 rfl ?_
      refine a_iload_n C dX11_takeWord_83 rfl 2 rfl rfl ?_
      refine a_iadd C dX11_takeWord_84 rfl ?_
      refine s_11_4 C dX11_takeWord_85 ho kw_5_226 rfl ?_
      refine a_iconst (v := 1) C dX11_takeWord_88 (by decide) rfl ?_
      exact a_zret C dX11_takeWord_89 hr hlocks (Nat.le_of_ble_eq_true rfl) (Nat.le_of_ble_eq_true rfl) rfl h
    · replace h := h.2 hc
      refine a_sub (lv' := []) [] rfl ?_
      exact c_X11_takeWord_76 C hr hlocks hE ho ha1  u70  h
def wp_X11_takeWord_16 (E : ms_En) (o : Nat) (a1 : Nat) (post : Int32 → ms_St → Prop)  : Nat → ms_St → Int32 → Prop
  | 0 => fun _ _ => False
  | n + 1 => fun u x2 => wp_J0_length_8abf5 E u a1 (fun r18 u18 => (r18 ≤ x2 → wp_X11_takeWord_48 E o a1 post u18 x2) ∧ (¬ r18 ≤ x2 → wp_X11_byteAt E u18 o ((ms_I u18 o 4) + x2) (fun r31 u31 => wp_J0_charAt_5068e E u31 a1 x2 (fun r36 u36 => (r31 = r36 → wp_X11_takeWord_16 E o a1 post n u36 (x2 + 1)) ∧ (¬ r31 = r36 → wp_X11_takeWord_48 E o a1 post u36 x2)))))
set_option maxHeartbeats 4000000 in
set_option maxRecDepth 100000 in
theorem c_X11_takeWord_16 {p : Program} {l : Launch} {e : Env} {s : State} {m : MethodId} {args : Array Value} {below : List Frame} {meth : Method} {c : Code} {G : va_G} {cy : Nat → ClassId} {A : Nat → Prop} {L : Nat → Nat} {E : ms_En} (C : ms_Cx p m c cX11_takeWord 3 s args (Cond.code ⟨"CensusWalkModel", "takeWord", "(Ljava/lang/String;)Z"⟩ prog_13_method_16_code 3 (some .boolean)) "CensusWalkModel" G cy A) (hr : meth.sig.returnType = (some .boolean)) (hlocks : meth.locks = false) (hE : ms_WT E) {o : Nat} {a1 : Nat} {post : Int32 → ms_St → Prop}  (ho : ms_is E o 11) (ha1 : a1 < 33)  : ∀ (n : Nat) (u : ms_St) (x2 : Int32), wp_X11_takeWord_16 E o a1 post n u x2 → ms_At p l e ({ frames := 4, cells := 0, slots := 0, locals := 85 } : Room) s m args below meth c 3 G cy A L 0 0 (ms_QI below args s G cy L E A post 0 0) E u 16 [(0, .ref (L o)), (1, .ref (cy (100 + a1))), (2, .int x2)] [] := by
  intro n
  induction n with
  | zero =>
    intro u x2  h
    exact absurd h id
  | succ n ih =>
    intro u x2  h
    unfold wp_X11_takeWord_16 at h
    refine a_iload_n C dX11_takeWord_16 rfl 2 rfl rfl ?_
    refine a_aload_n C dX11_takeWord_17 rfl 1 rfl rfl ?_
    refine a_callWI C (c_J0_length_8abf5 l G cy L E hE u a1 ha1 _ h) ha1 kw_6_122 kw_4_2 kw_4_3 kw_1_18 kw_4_4 rfl rfl pd_J0_length_8abf5 ⟨(Nat.le_of_ble_eq_true rfl), (Nat.le_of_ble_eq_true rfl)⟩ dX11_takeWord_18 rfl (Nat.le_of_ble_eq_true rfl) ⟨(Nat.le_of_ble_eq_true rfl), (Nat.le_of_ble_eq_true rfl)⟩ rfl (fun r18 u18 h => ?_)
    refine a_icmp_ge (tgt := 48) C dX11_takeWord_21 (by decide) rfl (fun hc => ?_) (fun hc => ?_)
    · replace h := h.1 hc
      exact c_X11_takeWord_48 C hr hlocks hE ho ha1  u18 x2  h
    · replace h := h.2 hc
      refine a_aload_n C dX11_takeWord_24 rfl 0 rfl rfl ?_
      refine a_aload_n C dX11_takeWord_25 rfl 0 rfl rfl ?_
      refine g_11_4 C dX11_takeWord_26 ho kw_5_226 rfl ?_
      refine a_iload_n C dX11_takeWord_29 rfl 2 rfl rfl ?_
      refine a_iadd C dX11_takeWord_30 rfl ?_
      refine a_callVI C (c_X11_byteAt l G cy L E hE u18 o ((ms_I u18 o 4) + x2) ho _ h) ho rfl (by decide) kw_6_118 kw_6_120 kp_47 kw_1_12 kw_6_121 rfl rfl pd_X11_byteAt ⟨(Nat.le_of_ble_eq_true rfl), (Nat.le_of_ble_eq_true rfl)⟩ dX11_takeWord_31 rfl (Nat.le_of_ble_eq_true rfl) ⟨(Nat.le_of_ble_eq_true rfl), (Nat.le_of_ble_eq_true rfl)⟩ rfl (fun r31 u31 h => ?_)
      refine a_aload_n C dX11_takeWord_34 rfl 1 rfl rfl ?_
      refine a_iload_n C dX11_takeWord_35 rfl 2 rfl rfl ?_
      refine a_callWI C (c_J0_charAt_5068e l G cy L E hE u31 a1 x2 ha1 _ h) ha1 kw_6_123 kw_4_12 kw_4_13 kw_1_18 kw_4_14 rfl rfl pd_J0_charAt_5068e ⟨(Nat.le_of_ble_eq_true rfl), (Nat.le_of_ble_eq_true rfl)⟩ dX11_takeWord_36 rfl (Nat.le_of_ble_eq_true rfl) ⟨(Nat.le_of_ble_eq_true rfl), (Nat.le_of_ble_eq_true rfl)⟩ rfl (fun r36 u36 h => ?_)
      refine a_icmp_ne (tgt := 48) C dX11_takeWord_39 (by decide) rfl (fun hc => ?_) (fun hc => ?_)
      · replace h := h.2 hc
        exact c_X11_takeWord_48 C hr hlocks hE ho ha1  u36 x2  h
      · replace h := h.1 hc
        refine a_iinc (lv' := [(0, .ref (L o)), (1, .ref (cy (100 + a1))), (2, .int (x2 + 1))]) (v := (x2 + 1)) C dX11_takeWord_42 2 rfl (congrArg (fun z => x2 + z) (by decide)) (by decide) [1, 2, 0] rfl rfl ?_
        refine a_goto (tgt := 16) C dX11_takeWord_45 (by decide) ?_
        exact ih u36 (x2 + 1)  h
def wp_X11_takeWord (E : ms_En) (u : ms_St) (o : Nat) (a1 : Nat) (post : Int32 → ms_St → Prop) : Prop := wp_X11_isGood E u o (fun r1 u1 => (r1 = 0 → post 0 u1) ∧ (¬ r1 = 0 → wp_X11_next E u1 o (fun r10 u10 => ∃ n16, wp_X11_takeWord_16 E o a1 post n16 u10 0)))
set_option maxHeartbeats 4000000 in
set_option maxRecDepth 100000 in
theorem c_X11_takeWord (l : Launch) (G : va_G) (cy : Nat → ClassId) (L : Nat → Nat) (E : ms_En) (hE : ms_WT E) (u : ms_St) (o : Nat) (a1 : Nat) (ho : ms_is E o 11) (ha1 : a1 < 33) (post : Int32 → ms_St → Prop) (h : wp_X11_takeWord E u o a1 post) : ms_MetI l ⟨"CensusWalkModel", "takeWord", "(Ljava/lang/String;)Z"⟩ (Cond.code ⟨"CensusWalkModel", "takeWord", "(Ljava/lang/String;)Z"⟩ prog_13_method_16_code 3 (some .boolean) :: lw_g) ({ frames := 4, cells := 0, slots := 0, locals := 85 } : Room) G cy L E [.ref (L o), .ref (cy (100 + a1))] u post 0 0 := by
  refine ms_enterI (lv := [(0, .ref (L o)), (1, .ref (cy (100 + a1)))]) (by decide) (Nat.le_of_ble_eq_true rfl) rfl ?_
  intro p e s m args below meth c A C hr hlocks
  unfold wp_X11_takeWord at h
  refine a_aload_n C dX11_takeWord_0 rfl 0 rfl rfl ?_
  refine a_callVI C (c_X11_isGood l G cy L E hE u o ho _ h) ho rfl (by decide) kw_6_110 kw_6_112 kp_45 kw_1_12 kw_6_113 rfl rfl pd_X11_isGood ⟨(Nat.le_of_ble_eq_true rfl), (Nat.le_of_ble_eq_true rfl)⟩ dX11_takeWord_1 rfl (Nat.le_of_ble_eq_true rfl) ⟨(Nat.le_of_ble_eq_true rfl), (Nat.le_of_ble_eq_true rfl)⟩ rfl (fun r1 u1 h => ?_)
  refine a_if_ne (tgt := 9) C dX11_takeWord_4 (by decide) rfl (fun hc => ?_) (fun hc => ?_)
  · replace h := h.2 hc
    refine a_aload_n C dX11_takeWord_9 rfl 0 rfl rfl ?_
    refine a_callVI C (c_X11_next l G cy L E hE u1 o ho _ h) ho rfl (by decide) kw_6_114 kw_6_116 kp_46 kw_1_12 kw_6_117 rfl rfl pd_X11_next ⟨(Nat.le_of_ble_eq_true rfl), (Nat.le_of_ble_eq_true rfl)⟩ dX11_takeWord_10 rfl (Nat.le_of_ble_eq_true rfl) ⟨(Nat.le_of_ble_eq_true rfl), (Nat.le_of_ble_eq_true rfl)⟩ rfl (fun r10 u10 h => ?_)
    refine a_pop C dX11_takeWord_13 rfl rfl ?_
    refine a_iconst (v := 0) C dX11_takeWord_14 (by decide) rfl ?_
    refine a_istore_n (lv' := [(0, .ref (L o)), (1, .ref (cy (100 + a1))), (2, .int 0)]) C dX11_takeWord_15 rfl (by decide) [1, 2, 0] rfl rfl ?_
    obtain ⟨n9, h⟩ := h
    exact c_X11_takeWord_16 C hr hlocks hE ho ha1  n9 u10 0  h
  · replace h := h.1 hc
    refine a_iconst (v := 0) C dX11_takeWord_7 (by decide) rfl ?_
    exact a_zret C dX11_takeWord_8 hr hlocks (Nat.le_of_ble_eq_true rfl) (Nat.le_of_ble_eq_true rfl) rfl h
