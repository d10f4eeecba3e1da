/-! CensusWalk.appendWord(I)V -/
theorem pd_X10_appendWord : (⟨"CensusWalk", "appendWord", "(I)V"⟩ : MethodName).cls = "CensusWalk" ∧ (⟨"CensusWalk", "appendWord", "(I)V"⟩ : MethodName).cls ≠ "java/lang/invoke/MethodHandle" ∧ (⟨"CensusWalk", "appendWord", "(I)V"⟩ : MethodName).cls ≠ "java/lang/invoke/VarHandle" ∧ (parseMethodDescriptor (⟨"CensusWalk", "appendWord", "(I)V"⟩ : MethodName).desc).map (fun d => d.parameters.length) = some 1 := by decide +kernel
def wp_X10_appendWord_42 (E : ms_En) (o : Nat) (a1 : Int32) (post : ms_St → Prop) (k3 : ms_St → Int32 → Prop) (u : ms_St) (x2 : Int32) : Prop := k3 u (x2 + (-8))
set_option maxHeartbeats 4000000 in
set_option maxRecDepth 100000 in
theorem c_X10_appendWord_42 {p : Program} {l : Launch} {e : Env} {s : State} {m : MethodId} {args : Array Value} {below : List Frame} {meth : Method} {c : Code} {G : va_G} {cy : Nat → ClassId} {A : Nat → Prop} {L : Nat → Nat} {E : ms_En} (C : ms_Cx p m c cX10_appendWord 3 s args (Cond.code ⟨"CensusWalk", "appendWord", "(I)V"⟩ prog_1_method_36_code 3 none) "CensusWalk" G cy A) (hr : meth.sig.returnType = none) (hlocks : meth.locks = false) (hE : ms_WT E) {o : Nat} {a1 : Int32} {post : ms_St → Prop} {k3 : ms_St → Int32 → Prop} (ho : ms_is E o 10) (hk3 : ∀ (u : ms_St) (x2 : Int32), k3 u x2 → ms_At p l e ({ frames := 0, cells := 0, slots := 0, locals := 0 } : Room) s m args below meth c 3 G cy A L 0 0 (ms_QV below args s G cy L E A post 0 0) E u 3 [(0, .ref (L o)), (1, .int a1), (2, .int x2)] []) (u : ms_St) (x2 : Int32)  (h : wp_X10_appendWord_42 E o a1 post k3 u x2) : ms_At p l e ({ frames := 0, cells := 0, slots := 0, locals := 0 } : Room) s m args below meth c 3 G cy A L 0 0 (ms_QV below args s G cy L E A post 0 0) E u 42 [(0, .ref (L o)), (1, .int a1), (2, .int x2)] [] := by
  unfold wp_X10_appendWord_42 at h
  refine a_iinc (lv' := [(0, .ref (L o)), (1, .int a1), (2, .int (x2 + (-8)))]) (v := (x2 + (-8))) C dX10_appendWord_42 2 rfl (congrArg (fun z => x2 + z) (by decide)) (by decide) [1, 2, 0] rfl rfl ?_
  refine a_goto (tgt := 3) C dX10_appendWord_45 (by decide) ?_
  exact hk3 u (x2 + (-8))  h
def wp_X10_appendWord_3 (E : ms_En) (o : Nat) (a1 : Int32) (post : ms_St → Prop)  : Nat → ms_St → Int32 → Prop
  | 0 => fun _ _ => False
  | n + 1 => fun u x2 => (x2 < 0 → post u) ∧ (¬ x2 < 0 → ((nI 900) ≤ (ms_I u o 1) → wp_X10_appendWord_42 E o a1 post (wp_X10_appendWord_3 E o a1 post n) u x2) ∧ (¬ (nI 900) ≤ (ms_I u o 1) → vp_in (ms_I u o 1) 900 ∧ (∀ w31 : ms_St, w31 = (ms_sI u (ms_at E o 0) (Int32.toNatClampNeg (ms_I u o 1)) (vp_nar .byte ((Int32.toInt8 (a1 >>> (x2 &&& 31))).toInt32))) → (wp_X10_appendWord_42 E o a1 post (wp_X10_appendWord_3 E o a1 post n) (ms_sI w31 o 1 ((ms_I w31 o 1) + 1)) x2))))
set_option maxHeartbeats 4000000 in
set_option maxRecDepth 100000 in
theorem c_X10_appendWord_3 {p : Program} {l : Launch} {e : Env} {s : State} {m : MethodId} {args : Array Value} {below : List Frame} {meth : Method} {c : Code} {G : va_G} {cy : Nat → ClassId} {A : Nat → Prop} {L : Nat → Nat} {E : ms_En} (C : ms_Cx p m c cX10_appendWord 3 s args (Cond.code ⟨"CensusWalk", "appendWord", "(I)V"⟩ prog_1_method_36_code 3 none) "CensusWalk" G cy A) (hr : meth.sig.returnType = none) (hlocks : meth.locks = false) (hE : ms_WT E) {o : Nat} {a1 : Int32} {post : ms_St → Prop}  (ho : ms_is E o 10)  : ∀ (n : Nat) (u : ms_St) (x2 : Int32), wp_X10_appendWord_3 E o a1 post n u x2 → ms_At p l e ({ frames := 0, cells := 0, slots := 0, locals := 0 } : Room) s m args below meth c 3 G cy A L 0 0 (ms_QV below args s G cy L E A post 0 0) E u 3 [(0, .ref (L o)), (1, .int a1), (2, .int x2)] [] := by
  intro n
  induction n with
  | zero =>
    intro u x2  h
    exact absurd h id
  | succ n ih =>
    intro u x2  h
    unfold wp_X10_appendWord_3 at h
    refine a_iload_n C dX10_appendWord_3 rfl 2 rfl rfl ?_
    refine a_if_lt (tgt := 48) C dX10_appendWord_4 (by decide) rfl (fun hc => ?_) (fun hc => ?_)
    · replace h := h.1 hc
      exact a_vret C dX10_appendWord_48 hr hlocks (Nat.le_of_ble_eq_true rfl) (Nat.le_of_ble_eq_true rfl) h
    · replace h := h.2 hc
      refine a_aload_n C dX10_appendWord_7 rfl 0 rfl rfl ?_
      refine g_10_1 C dX10_appendWord_8 ho kw_2_151 rfl ?_
      refine a_aload_n C dX10_appendWord_11 rfl 0 rfl rfl ?_
      refine g_10_0 C hE dX10_appendWord_12 ho kw_2_150 rfl ?_
      have k12 : ms_is E (ms_at E o 0) 12 := ms_wt hE ho rfl (by decide)
      have n12 : ms_N E (ms_at E o 0) = 900 := ms_wl hE ho (by decide) (by decide) rfl
      refine a_alen12 C dX10_appendWord_15 k12 rfl ?_
      rw [n12]
      refine a_icmp_ge (tgt := 42) C dX10_appendWord_16 (by decide) rfl (fun hc => ?_) (fun hc => ?_)
      · replace h := h.1 hc
        exact c_X10_appendWord_42 C hr hlocks hE ho ih u x2  h
      · replace h := h.2 hc
        refine a_aload_n C dX10_appendWord_19 rfl 0 rfl rfl ?_
        refine g_10_0 C hE dX10_appendWord_20 ho kw_2_150 rfl ?_
        refine a_aload_n C dX10_appendWord_23 rfl 0 rfl rfl ?_
        refine g_10_1 C dX10_appendWord_24 ho kw_2_151 rfl ?_
        refine a_iload_n C dX10_appendWord_27 rfl 1 rfl rfl ?_
        refine a_iload_n C dX10_appendWord_28 rfl 2 rfl rfl ?_
        refine a_ishr C dX10_appendWord_29 rfl ?_
        refine a_i2b C dX10_appendWord_30 rfl ?_
        obtain ⟨q31, h⟩ := h
        refine a_bast C dX10_appendWord_31 k12 n12 q31 rfl ?_
        refine a_nmU (fun w31 e31 => ?_)
        replace h := h w31 e31
        refine a_aload_n C dX10_appendWord_32 rfl 0 rfl rfl ?_
        refine a_dup C dX10_appendWord_33 rfl rfl ?_
        refine g_10_1 C dX10_appendWord_34 ho kw_2_151 rfl ?_
        refine a_iconst (v := 1) C dX10_appendWord_37 (by decide) rfl ?_
        refine a_iadd C dX10_appendWord_38 rfl ?_
        refine s_10_1 C dX10_appendWord_39 ho kw_2_151 rfl ?_
        exact c_X10_appendWord_42 C hr hlocks hE ho ih (ms_sI w31 o 1 ((ms_I w31 o 1) + 1)) x2  h
def wp_X10_appendWord (E : ms_En) (u : ms_St) (o : Nat) (a1 : Int32) (post : ms_St → Prop) : Prop := ∃ n3, wp_X10_appendWord_3 E o a1 post n3 u 24
set_option maxHeartbeats 4000000 in
set_option maxRecDepth 100000 in
theorem c_X10_appendWord (l : Launch) (G : va_G) (cy : Nat → ClassId) (L : Nat → Nat) (E : ms_En) (hE : ms_WT E) (u : ms_St) (o : Nat) (a1 : Int32) (ho : ms_is E o 10) (post : ms_St → Prop) (h : wp_X10_appendWord E u o a1 post) : ms_MetV l ⟨"CensusWalk", "appendWord", "(I)V"⟩ (Cond.code ⟨"CensusWalk", "appendWord", "(I)V"⟩ prog_1_method_36_code 3 none :: lw_g) ({ frames := 0, cells := 0, slots := 0, locals := 0 } : Room) G cy L E [.ref (L o), .int a1] u post 0 0 := by
  refine ms_enterV (lv := [(0, .ref (L o)), (1, .int a1)]) (by decide) (Nat.le_of_ble_eq_true rfl) rfl ?_
  intro p e s m args below meth c A C hr hlocks
  unfold wp_X10_appendWord at h
  refine a_bipush (v := 24) C dX10_appendWord_0 (by decide) rfl ?_
  refine a_istore_n (lv' := [(0, .ref (L o)), (1, .int a1), (2, .int 24)]) C dX10_appendWord_2 rfl (by decide) [1, 2, 0] rfl rfl ?_
  obtain ⟨n9, h⟩ := h
  exact c_X10_appendWord_3 C hr hlocks hE ho  n9 u 24  h

/-! CensusWalk.append(IIIII)I -/
theorem pd_X10_append : (⟨"CensusWalk", "append", "(IIIII)I"⟩ : MethodName).cls = "CensusWalk" ∧ (⟨"CensusWalk", "append", "(IIIII)I"⟩ : MethodName).cls ≠ "java/lang/invoke/MethodHandle" ∧ (⟨"CensusWalk", "append", "(IIIII)I"⟩ : MethodName).cls ≠ "java/lang/invoke/VarHandle" ∧ (parseMethodDescriptor (⟨"CensusWalk", "append", "(IIIII)I"⟩ : MethodName).desc).map (fun d => d.parameters.length) = some 5 := by decide +kernel
def wp_X10_append (E : ms_En) (u : ms_St) (o : Nat) (a1 : Int32) (a2 : Int32) (a3 : Int32) (a4 : Int32) (a5 : Int32) (post : Int32 → ms_St → Prop) : Prop := (((ms_I u o 1) + 20) ≤ 900 → wp_X10_appendWord E u o a1 (fun u17 => wp_X10_appendWord E u17 o a2 (fun u22 => wp_X10_appendWord E u22 o a3 (fun u27 => wp_X10_appendWord E u27 o a4 (fun u33 => wp_X10_appendWord E u33 o a5 (fun u39 => post (ms_I u39 o 1) u39)))))) ∧ (¬ ((ms_I u o 1) + 20) ≤ 900 → post (-1) u)
set_option maxHeartbeats 4000000 in
set_option maxRecDepth 100000 in
theorem c_X10_append (l : Launch) (G : va_G) (cy : Nat → ClassId) (L : Nat → Nat) (E : ms_En) (hE : ms_WT E) (u : ms_St) (o : Nat) (a1 : Int32) (a2 : Int32) (a3 : Int32) (a4 : Int32) (a5 : Int32) (ho : ms_is E o 10) (post : Int32 → ms_St → Prop) (h : wp_X10_append E u o a1 a2 a3 a4 a5 post) : ms_MetI l ⟨"CensusWalk", "append", "(IIIII)I"⟩ (Cond.code ⟨"CensusWalk", "append", "(IIIII)I"⟩ prog_1_method_2_code 6 (some .int) :: lw_g) ({ frames := 1, cells := 0, slots := 0, locals := 22 } : Room) G cy L E [.ref (L o), .int a1, .int a2, .int a3, .int a4, .int a5] u post 0 0 := by
  refine ms_enterI (lv := [(0, .ref (L o)), (1, .int a1), (2, .int a2), (3, .int a3), (4, .int a4), (5, .int a5)]) (by decide) (Nat.le_of_ble_eq_true rfl) rfl ?_
  intro p e s m args below meth c A C hr hlocks
  unfold wp_X10_append at h
  refine a_aload_n C dX10_append_0 rfl 0 rfl rfl ?_
  refine g_10_1 C dX10_append_1 ho kw_2_151 rfl ?_
  refine a_bipush (v := 20) C dX10_append_4 (by decide) rfl ?_
  refine a_iadd C dX10_append_6 rfl ?_
  refine a_sipush (v := 900) C dX10_append_7 (by decide) rfl ?_
  refine a_icmp_le (tgt := 15) C dX10_append_10 (by decide) rfl (fun hc => ?_) (fun hc => ?_)
  · replace h := h.1 hc
    refine a_aload_n C dX10_append_15 rfl 0 rfl rfl ?_
    refine a_iload_n C dX10_append_16 rfl 1 rfl rfl ?_
    refine a_callVV C (c_X10_appendWord l G cy L E hE u o a1 ho _ h) ho rfl (by decide) kw_2_194 kw_2_196 kp_0 kw_1_1 kw_2_197 rfl rfl pd_X10_appendWord ⟨(Nat.le_of_ble_eq_true rfl), (Nat.le_of_ble_eq_true rfl)⟩ dX10_append_17 rfl (Nat.le_of_ble_eq_true rfl) ⟨(Nat.le_of_ble_eq_true rfl), (Nat.le_of_ble_eq_true rfl)⟩ rfl (fun u17 h => ?_)
    refine a_aload_n C dX10_append_20 rfl 0 rfl rfl ?_
    refine a_iload_n C dX10_append_21 rfl 2 rfl rfl ?_
    refine a_callVV C (c_X10_appendWord l G cy L E hE u17 o a2 ho _ h) ho rfl (by decide) kw_2_194 kw_2_196 kp_0 kw_1_1 kw_2_197 rfl rfl pd_X10_appendWord ⟨(Nat.le_of_ble_eq_true rfl), (Nat.le_of_ble_eq_true rfl)⟩ dX10_append_22 rfl (Nat.le_of_ble_eq_true rfl) ⟨(Nat.le_of_ble_eq_true rfl), (Nat.le_of_ble_eq_true rfl)⟩ rfl (fun u22 h => ?_)
    refine a_aload_n C dX10_append_25 rfl 0 rfl rfl ?_
    refine a_iload_n C dX10_append_26 rfl 3 rfl rfl ?_
    refine a_callVV C (c_X10_appendWord l G cy L E hE u22 o a3 ho _ h) ho rfl (by decide) kw_2_194 kw_2_196 kp_0 kw_1_1 kw_2_197 rfl rfl pd_X10_appendWord ⟨(Nat.le_of_ble_eq_true rfl), (Nat.le_of_ble_eq_true rfl)⟩ dX10_append_27 rfl (Nat.le_of_ble_eq_true rfl) ⟨(Nat.le_of_ble_eq_true rfl), (Nat.le_of_ble_eq_true rfl)⟩ rfl (fun u27 h => ?_)
    refine a_aload_n C dX10_append_30 rfl 0 rfl rfl ?_
    refine a_iload C dX10_append_31 4 rfl rfl ?_
    refine a_callVV C (c_X10_appendWord l G cy L E hE u27 o a4 ho _ h) ho rfl (by decide) kw_2_194 kw_2_196 kp_0 kw_1_1 kw_2_197 rfl rfl pd_X10_appendWord ⟨(Nat.le_of_ble_eq_true rfl), (Nat.le_of_ble_eq_true rfl)⟩ dX10_append_33 rfl (Nat.le_of_ble_eq_true rfl) ⟨(Nat.le_of_ble_eq_true rfl), (Nat.le_of_ble_eq_true rfl)⟩ rfl (fun u33 h => ?_)
    refine a_aload_n C dX10_append_36 rfl 0 rfl rfl ?_
    refine a_iload C dX10_append_37 5 rfl rfl ?_
    refine a_callVV C (c_X10_appendWord l G cy L E hE u33 o a5 ho _ h) ho rfl (by decide) kw_2_194 kw_2_196 kp_0 kw_1_1 kw_2_197 rfl rfl pd_X10_appendWord ⟨(Nat.le_of_ble_eq_true rfl), (Nat.le_of_ble_eq_true rfl)⟩ dX10_append_39 rfl (Nat.le_of_ble_eq_true rfl) ⟨(Nat.le_of_ble_eq_true rfl), (Nat.le_of_ble_eq_true rfl)⟩ rfl (fun u39 h => ?_)
    refine a_aload_n C dX10_append_42 rfl 0 rfl rfl ?_
    refine g_10_1 C dX10_append_43 ho kw_2_151 rfl ?_
    exact a_iret C dX10_append_46 hr hlocks (Nat.le_of_ble_eq_true rfl) (Nat.le_of_ble_eq_true rfl) h
  · replace h := h.2 hc
    refine a_iconst (v := (-1)) C dX10_append_13 (by decide) rfl ?_
    exact a_iret C dX10_append_14 hr hlocks (Nat.le_of_ble_eq_true rfl) (Nat.le_of_ble_eq_true rfl) h

/-! CensusWalk.errorOffset()I -/
theorem pd_X10_errorOffset : (⟨"CensusWalk", "errorOffset", "()I"⟩ : MethodName).cls = "CensusWalk" ∧ (⟨"CensusWalk", "errorOffset", "()I"⟩ : MethodName).cls ≠ "java/lang/invoke/MethodHandle" ∧ (⟨"CensusWalk", "errorOffset", "()I"⟩ : MethodName).cls ≠ "java/lang/invoke/VarHandle" ∧ (parseMethodDescriptor (⟨"CensusWalk", "errorOffset", "()I"⟩ : MethodName).desc).map (fun d => d.parameters.length) = some 0 := by decide +kernel
def wp_X10_errorOffset (E : ms_En) (u : ms_St) (o : Nat) (post : Int32 → ms_St → Prop) : Prop := post (ms_I u o 2) u
set_option maxHeartbeats 4000000 in
set_option maxRecDepth 100000 in
theorem c_X10_errorOffset (l : Launch) (G : va_G) (cy : Nat → ClassId) (L : Nat → Nat) (E : ms_En) (hE : ms_WT E) (u : ms_St) (o : Nat) (ho : ms_is E o 10) (post : Int32 → ms_St → Prop) (h : wp_X10_errorOffset E u o post) : ms_MetI l ⟨"CensusWalk", "errorOffset", "()I"⟩ (Cond.code ⟨"CensusWalk", "errorOffset", "()I"⟩ prog_1_method_4_code 1 (some .int) :: lw_g) ({ frames := 0, cells := 0, slots := 0, locals := 0 } : Room) G cy L E [.ref (L o)] u post 0 0 := by
  refine ms_enterI (lv := [(0, .ref (L o))]) (by decide) (Nat.le_of_ble_eq_true rfl) rfl ?_
  intro p e s m args below meth c A C hr hlocks
  unfold wp_X10_errorOffset at h
  refine a_aload_n C dX10_errorOffset_0 rfl 0 rfl rfl ?_
  refine g_10_2 C dX10_errorOffset_1 ho kw_2_152 rfl ?_
  exact a_iret C dX10_errorOffset_4 hr hlocks (Nat.le_of_ble_eq_true rfl) (Nat.le_of_ble_eq_true rfl) h

/-! CensusWalk.crossingCount()I -/
theorem pd_X10_crossingCount : (⟨"CensusWalk", "crossingCount", "()I"⟩ : MethodName).cls = "CensusWalk" ∧ (⟨"CensusWalk", "crossingCount", "()I"⟩ : MethodName).cls ≠ "java/lang/invoke/MethodHandle" ∧ (⟨"CensusWalk", "crossingCount", "()I"⟩ : MethodName).cls ≠ "java/lang/invoke/VarHandle" ∧ (parseMethodDescriptor (⟨"CensusWalk", "crossingCount", "()I"⟩ : MethodName).desc).map (fun d => d.parameters.length) = some 0 := by decide +kernel
def wp_X10_crossingCount (E : ms_En) (u : ms_St) (o : Nat) (post : Int32 → ms_St → Prop) : Prop := post (ms_I u (ms_at E o 3) 0) u
set_option maxHeartbeats 4000000 in
set_option maxRecDepth 100000 in
theorem c_X10_crossingCount (l : Launch) (G : va_G) (cy : Nat → ClassId) (L : Nat → Nat) (E : ms_En) (hE : ms_WT E) (u : ms_St) (o : Nat) (ho : ms_is E o 10) (post : Int32 → ms_St → Prop) (h : wp_X10_crossingCount E u o post) : ms_MetI l ⟨"CensusWalk", "crossingCount", "()I"⟩ (Cond.code ⟨"CensusWalk", "crossingCount", "()I"⟩ prog_1_method_5_code 1 (some .int) :: lw_g) ({ frames := 0, cells := 0, slots := 0, locals := 0 } : Room) G cy L E [.ref (L o)] u post 0 0 := by
  refine ms_enterI (lv := [(0, .ref (L o))]) (by decide) (Nat.le_of_ble_eq_true rfl) rfl ?_
  intro p e s m args below meth c A C hr hlocks
  unfold wp_X10_crossingCount at h
  refine a_aload_n C dX10_crossingCount_0 rfl 0 rfl rfl ?_
  refine g_10_3 C hE dX10_crossingCount_1 ho kw_2_153 rfl ?_
  have k1 : ms_is E (ms_at E o 3) 7 := ms_wt hE ho rfl (by decide)
  refine g_7_0 C dX10_crossingCount_4 k1 kw_1_168 rfl ?_
  exact a_iret C dX10_crossingCount_7 hr hlocks (Nat.le_of_ble_eq_true rfl) (Nat.le_of_ble_eq_true rfl) h

/-! CensusWalk.streetCount()I -/
theorem pd_X10_streetCount : (⟨"CensusWalk", "streetCount", "()I"⟩ : MethodName).cls = "CensusWalk" ∧ (⟨"CensusWalk", "streetCount", "()I"⟩ : MethodName).cls ≠ "java/lang/invoke/MethodHandle" ∧ (⟨"CensusWalk", "streetCount", "()I"⟩ : MethodName).cls ≠ "java/lang/invoke/VarHandle" ∧ (parseMethodDescriptor (⟨"CensusWalk", "streetCount", "()I"⟩ : MethodName).desc).map (fun d => d.parameters.length) = some 0 := by decide +kernel
def wp_X10_streetCount (E : ms_En) (u : ms_St) (o : Nat) (post : Int32 → ms_St → Prop) : Prop := post (ms_I u (ms_at E (ms_at E o 3) 3) 0) u
set_option maxHeartbeats 4000000 in
set_option maxRecDepth 100000 in
theorem c_X10_streetCount (l : Launch) (G : va_G) (cy : Nat → ClassId) (L : Nat → Nat) (E : ms_En) (hE : ms_WT E) (u : ms_St) (o : Nat) (ho : ms_is E o 10) (post : Int32 → ms_St → Prop) (h : wp_X10_streetCount E u o post) : ms_MetI l ⟨"CensusWalk", "streetCount", "()I"⟩ (Cond.code ⟨"CensusWalk", "streetCount", "()I"⟩ prog_1_method_6_code 1 (some .int) :: lw_g) ({ frames := 0, cells := 0, slots := 0, locals := 0 } : Room) G cy L E [.ref (L o)] u post 0 0 := by
  refine ms_enterI (lv := [(0, .ref (L o))]) (by decide) (Nat.le_of_ble_eq_true rfl) rfl ?_
  intro p e s m args below meth c A C hr hlocks
  unfold wp_X10_streetCount at h
  refine a_aload_n C dX10_streetCount_0 rfl 0 rfl rfl ?_
  refine g_10_3 C hE dX10_streetCount_1 ho kw_2_153 rfl ?_
  have k1 : ms_is E (ms_at E o 3) 7 := ms_wt hE ho rfl (by decide)
  refine g_7_3 C hE dX10_streetCount_4 k1 kw_1_178 rfl ?_
  have k4 : ms_is E (ms_at E (ms_at E o 3) 3) 5 := ms_wt hE k1 rfl (by decide)
  refine g_5_0 C dX10_streetCount_7 k4 kw_1_51 rfl ?_
  exact a_iret C dX10_streetCount_10 hr hlocks (Nat.le_of_ble_eq_true rfl) (Nat.le_of_ble_eq_true rfl) h

/-! CensusWalk.houseCount()I -/
theorem pd_X10_houseCount : (⟨"CensusWalk", "houseCount", "()I"⟩ : MethodName).cls = "CensusWalk" ∧ (⟨"CensusWalk", "houseCount", "()I"⟩ : MethodName).cls ≠ "java/lang/invoke/MethodHandle" ∧ (⟨"CensusWalk", "houseCount", "()I"⟩ : MethodName).cls ≠ "java/lang/invoke/VarHandle" ∧ (parseMethodDescriptor (⟨"CensusWalk", "houseCount", "()I"⟩ : MethodName).desc).map (fun d => d.parameters.length) = some 0 := by decide +kernel
def wp_X10_houseCount (E : ms_En) (u : ms_St) (o : Nat) (post : Int32 → ms_St → Prop) : Prop := post (ms_I u (ms_at E (ms_at E o 3) 4) 0) u
set_option maxHeartbeats 4000000 in
set_option maxRecDepth 100000 in
theorem c_X10_houseCount (l : Launch) (G : va_G) (cy : Nat → ClassId) (L : Nat → Nat) (E : ms_En) (hE : ms_WT E) (u : ms_St) (o : Nat) (ho : ms_is E o 10) (post : Int32 → ms_St → Prop) (h : wp_X10_houseCount E u o post) : ms_MetI l ⟨"CensusWalk", "houseCount", "()I"⟩ (Cond.code ⟨"CensusWalk", "houseCount", "()I"⟩ prog_1_method_7_code 1 (some .int) :: lw_g) ({ frames := 0, cells := 0, slots := 0, locals := 0 } : Room) G cy L E [.ref (L o)] u post 0 0 := by
  refine ms_enterI (lv := [(0, .ref (L o))]) (by decide) (Nat.le_of_ble_eq_true rfl) rfl ?_
  intro p e s m args below meth c A C hr hlocks
  unfold wp_X10_houseCount at h
  refine a_aload_n C dX10_houseCount_0 rfl 0 rfl rfl ?_
  refine g_10_3 C hE dX10_houseCount_1 ho kw_2_153 rfl ?_
  have k1 : ms_is E (ms_at E o 3) 7 := ms_wt hE ho rfl (by decide)
  refine g_7_4 C hE dX10_houseCount_4 k1 kw_1_181 rfl ?_
  have k4 : ms_is E (ms_at E (ms_at E o 3) 4) 0 := ms_wt hE k1 rfl (by decide)
  refine g_0_0 C dX10_houseCount_7 k4 kw_1_84 rfl ?_
  exact a_iret C dX10_houseCount_10 hr hlocks (Nat.le_of_ble_eq_true rfl) (Nat.le_of_ble_eq_true rfl) h

/-! CensusWalk.walkerCount()I -/
theorem pd_X10_walkerCount : (⟨"CensusWalk", "walkerCount", "()I"⟩ : MethodName).cls = "CensusWalk" ∧ (⟨"CensusWalk", "walkerCount", "()I"⟩ : MethodName).cls ≠ "java/lang/invoke/MethodHandle" ∧ (⟨"CensusWalk", "walkerCount", "()I"⟩ : MethodName).cls ≠ "java/lang/invoke/VarHandle" ∧ (parseMethodDescriptor (⟨"CensusWalk", "walkerCount", "()I"⟩ : MethodName).desc).map (fun d => d.parameters.length) = some 0 := by decide +kernel
def wp_X10_walkerCount (E : ms_En) (u : ms_St) (o : Nat) (post : Int32 → ms_St → Prop) : Prop := post (ms_I u (ms_at E (ms_at E o 3) 5) 0) u
set_option maxHeartbeats 4000000 in
set_option maxRecDepth 100000 in
theorem c_X10_walkerCount (l : Launch) (G : va_G) (cy : Nat → ClassId) (L : Nat → Nat) (E : ms_En) (hE : ms_WT E) (u : ms_St) (o : Nat) (ho : ms_is E o 10) (post : Int32 → ms_St → Prop) (h : wp_X10_walkerCount E u o post) : ms_MetI l ⟨"CensusWalk", "walkerCount", "()I"⟩ (Cond.code ⟨"CensusWalk", "walkerCount", "()I"⟩ prog_1_method_8_code 1 (some .int) :: lw_g) ({ frames := 0, cells := 0, slots := 0, locals := 0 } : Room) G cy L E [.ref (L o)] u post 0 0 := by
  refine ms_enterI (lv := [(0, .ref (L o))]) (by decide) (Nat.le_of_ble_eq_true rfl) rfl ?_
  intro p e s m args below meth c A C hr hlocks
  unfold wp_X10_walkerCount at h
  refine a_aload_n C dX10_walkerCount_0 rfl 0 rfl rfl ?_
  refine g_10_3 C hE dX10_walkerCount_1 ho kw_2_153 rfl ?_
  have k1 : ms_is E (ms_at E o 3) 7 := ms_wt hE ho rfl (by decide)
  refine g_7_5 C hE dX10_walkerCount_4 k1 kw_1_189 rfl ?_
  have k4 : ms_is E (ms_at E (ms_at E o 3) 5) 9 := ms_wt hE k1 rfl (by decide)
  refine g_9_0 C dX10_walkerCount_7 k4 kw_1_142 rfl ?_
  exact a_iret C dX10_walkerCount_10 hr hlocks (Nat.le_of_ble_eq_true rfl) (Nat.le_of_ble_eq_true rfl) h

/-! CensusWalk.checkHouse(I)V -/
theorem pd_X10_checkHouse : (⟨"CensusWalk", "checkHouse", "(I)V"⟩ : MethodName).cls = "CensusWalk" ∧ (⟨"CensusWalk", "checkHouse", "(I)V"⟩ : MethodName).cls ≠ "java/lang/invoke/MethodHandle" ∧ (⟨"CensusWalk", "checkHouse", "(I)V"⟩ : MethodName).cls ≠ "java/lang/invoke/VarHandle" ∧ (parseMethodDescriptor (⟨"CensusWalk", "checkHouse", "(I)V"⟩ : MethodName).desc).map (fun d => d.parameters.length) = some 1 := by decide +kernel
def wp_X10_checkHouse (E : ms_En) (u : ms_St) (o : Nat) (a1 : Int32) (post : ms_St → Prop) (px : String → ms_St → Prop) : Prop := wp_X0_has E u (ms_at E (ms_at E o 3) 4) a1 (fun r8 u8 => (r8 = 0 → px "java/lang/IndexOutOfBoundsException" u8) ∧ (¬ r8 = 0 → post u8))
set_option maxHeartbeats 4000000 in
set_option maxRecDepth 100000 in
theorem c_X10_checkHouse (l : Launch) (G : va_G) (cy : Nat → ClassId) (L : Nat → Nat) (E : ms_En) (hE : ms_WT E) (hl9 : l.stackTraces = false) (u : ms_St) (o : Nat) (a1 : Int32) (ho : ms_is E o 10) (post : ms_St → Prop) (px : String → ms_St → Prop) (h : wp_X10_checkHouse E u o a1 post px) : ms_XV l ⟨"CensusWalk", "checkHouse", "(I)V"⟩ (Cond.code ⟨"CensusWalk", "checkHouse", "(I)V"⟩ prog_1_method_42_code 2 none :: lw_g) ({ frames := 6, cells := 1, slots := 6, locals := 120 } : Room) G cy L E [.ref (L o), .int a1] u post px 1 6 := by
  refine ms_enterXV (lv := [(0, .ref (L o)), (1, .int a1)]) (by decide) (Nat.le_of_ble_eq_true rfl) rfl ?_
  intro p e s m args below meth c A C hr hlocks hnx
  unfold wp_X10_checkHouse at h
  refine a_aload_n C dX10_checkHouse_0 rfl 0 rfl rfl ?_
  refine g_10_3 C hE dX10_checkHouse_1 ho kw_2_153 rfl ?_
  have k1 : ms_is E (ms_at E o 3) 7 := ms_wt hE ho rfl (by decide)
  refine g_7_4 C hE dX10_checkHouse_4 k1 kw_1_181 rfl ?_
  have k4 : ms_is E (ms_at E (ms_at E o 3) 4) 0 := ms_wt hE k1 rfl (by decide)
  refine a_iload_n C dX10_checkHouse_7 rfl 1 rfl rfl ?_
  refine a_callVI C (c_X0_has l G cy L E hE u (ms_at E (ms_at E o 3) 4) a1 k4 _ h) k4 rfl (by decide) kw_4_156 kw_3_39 kw_3_40 kw_1_4 kw_3_41 rfl rfl pd_X0_has ⟨(Nat.le_of_ble_eq_true rfl), (Nat.le_of_ble_eq_true rfl)⟩ dX10_checkHouse_8 rfl (Nat.le_of_ble_eq_true rfl) ⟨(Nat.le_of_ble_eq_true rfl), (Nat.le_of_ble_eq_true rfl)⟩ rfl (fun r8 u8 h => ?_)
  refine a_if_ne (tgt := 25) C dX10_checkHouse_11 (by decide) rfl (fun hc => ?_) (fun hc => ?_)
  · replace h := h.2 hc
    refine a_retXV ?_
    exact a_vret C dX10_checkHouse_25 hr hlocks (Nat.le_of_ble_eq_true rfl) (Nat.le_of_ble_eq_true rfl) h
  · replace h := h.1 hc
    exact a_throwWV (j := 11) C hl9 hnx hlocks (by decide +kernel) rfl rfl kw_4_157 kw_1_23 (x_136 C) (by decide +kernel) dX10_checkHouse_14 dX10_checkHouse_17 dX10_checkHouse_18 dX10_checkHouse_21 dX10_checkHouse_24 (Nat.le_of_ble_eq_true rfl) (Nat.le_of_ble_eq_true rfl) (Nat.le_of_ble_eq_true rfl) (Nat.le_of_ble_eq_true rfl) (Nat.le_of_ble_eq_true rfl) (Nat.le_of_ble_eq_true rfl) h

/-! CensusWalk.refreshRoutes()V -/
theorem pd_X10_refreshRoutes : (⟨"CensusWalk", "refreshRoutes", "()V"⟩ : MethodName).cls = "CensusWalk" ∧ (⟨"CensusWalk", "refreshRoutes", "()V"⟩ : MethodName).cls ≠ "java/lang/invoke/MethodHandle" ∧ (⟨"CensusWalk", "refreshRoutes", "()V"⟩ : MethodName).cls ≠ "java/lang/invoke/VarHandle" ∧ (parseMethodDescriptor (⟨"CensusWalk", "refreshRoutes", "()V"⟩ : MethodName).desc).map (fun d => d.parameters.length) = some 0 := by decide +kernel
def wp_X10_refreshRoutes_23 (E : ms_En) (o : Nat) (post : ms_St → Prop)  (u : ms_St)  : Prop := post u
set_option maxHeartbeats 4000000 in
set_option maxRecDepth 100000 in
theorem c_X10_refreshRoutes_23 {p : Program} {l : Launch} {e : Env} {s : State} {m : MethodId} {args : Array Value} {below : List Frame} {meth : Method} {c : Code} {G : va_G} {cy : Nat → ClassId} {A : Nat → Prop} {L : Nat → Nat} {E : ms_En} (C : ms_Cx p m c cX10_refreshRoutes 1 s args (Cond.code ⟨"CensusWalk", "refreshRoutes", "()V"⟩ prog_1_method_39_code 1 none) "CensusWalk" G cy A) (hr : meth.sig.returnType = none) (hlocks : meth.locks = false) (hE : ms_WT E) {o : Nat} {post : ms_St → Prop}  (ho : ms_is E o 10)  (u : ms_St)   (h : wp_X10_refreshRoutes_23 E o post u ) : ms_At p l e ({ frames := 4, cells := 0, slots := 0, locals := 92 } : Room) s m args below meth c 1 G cy A L 0 0 (ms_QV below args s G cy L E A post 0 0) E u 23 [] [] := by
  unfold wp_X10_refreshRoutes_23 at h
  exact a_vret C dX10_refreshRoutes_23 hr hlocks (Nat.le_of_ble_eq_true rfl) (Nat.le_of_ble_eq_true rfl) h
def wp_X10_refreshRoutes (E : ms_En) (u : ms_St) (o : Nat) (post : ms_St → Prop) : Prop := ((ms_I u o 11) = 0 → wp_X1_measure E u (ms_at E o 8) (ms_at E o 3) (fun u15 => wp_X10_refreshRoutes_23 E o post (ms_sI u15 o 11 1))) ∧ (¬ (ms_I u o 11) = 0 → wp_X10_refreshRoutes_23 E o post u)
set_option maxHeartbeats 4000000 in
set_option maxRecDepth 100000 in
theorem c_X10_refreshRoutes (l : Launch) (G : va_G) (cy : Nat → ClassId) (L : Nat → Nat) (E : ms_En) (hE : ms_WT E) (u : ms_St) (o : Nat) (ho : ms_is E o 10) (post : ms_St → Prop) (h : wp_X10_refreshRoutes E u o post) : ms_MetV l ⟨"CensusWalk", "refreshRoutes", "()V"⟩ (Cond.code ⟨"CensusWalk", "refreshRoutes", "()V"⟩ prog_1_method_39_code 1 none :: lw_g) ({ frames := 4, cells := 0, slots := 0, locals := 92 } : Room) G cy L E [.ref (L o)] u post 0 0 := by
  refine ms_enterV (lv := [(0, .ref (L o))]) (by decide) (Nat.le_of_ble_eq_true rfl) rfl ?_
  intro p e s m args below meth c A C hr hlocks
  unfold wp_X10_refreshRoutes at h
  refine a_aload_n C dX10_refreshRoutes_0 rfl 0 rfl rfl ?_
  refine g_10_11 C dX10_refreshRoutes_1 ho kw_2_161 rfl ?_
  refine a_if_ne (tgt := 23) C dX10_refreshRoutes_4 (by decide) rfl (fun hc => ?_) (fun hc => ?_)
  · replace h := h.2 hc
    refine a_sub (lv' := []) [] rfl ?_
    exact c_X10_refreshRoutes_23 C hr hlocks hE ho  u  h
  · replace h := h.1 hc
    refine a_aload_n C dX10_refreshRoutes_7 rfl 0 rfl rfl ?_
    refine g_10_8 C hE dX10_refreshRoutes_8 ho kw_2_158 rfl ?_
    have k8 : ms_is E (ms_at E o 8) 1 := ms_wt hE ho rfl (by decide)
    refine a_aload_n C dX10_refreshRoutes_11 rfl 0 rfl rfl ?_
    refine g_10_3 C hE dX10_refreshRoutes_12 ho kw_2_153 rfl ?_
    have k12 : ms_is E (ms_at E o 3) 7 := ms_wt hE ho rfl (by decide)
    refine a_callVV C (c_X1_measure l G cy L E hE u (ms_at E o 8) (ms_at E o 3) k8 k12 _ h) k8 rfl (by decide) kw_2_230 kw_2_231 kw_2_232 kw_1_9 kw_2_233 rfl rfl pd_X1_measure ⟨(Nat.le_of_ble_eq_true rfl), (Nat.le_of_ble_eq_true rfl)⟩ dX10_refreshRoutes_15 rfl (Nat.le_of_ble_eq_true rfl) ⟨(Nat.le_of_ble_eq_true rfl), (Nat.le_of_ble_eq_true rfl)⟩ rfl (fun u15 h => ?_)
    refine a_aload_n C dX10_refreshRoutes_18 rfl 0 rfl rfl ?_
    refine a_iconst (v := 1) C dX10_refreshRoutes_19 (by decide) rfl ?_
    refine s_10_11 C dX10_refreshRoutes_20 ho kw_2_161 rfl rfl rfl ?_
    refine a_sub (lv' := []) [] rfl ?_
    exact c_X10_refreshRoutes_23 C hr hlocks hE ho  (ms_sI u15 o 11 1)  h

/-! CensusWalk.distance(II)I -/
theorem pd_X10_distance : (⟨"CensusWalk", "distance", "(II)I"⟩ : MethodName).cls = "CensusWalk" ∧ (⟨"CensusWalk", "distance", "(II)I"⟩ : MethodName).cls ≠ "java/lang/invoke/MethodHandle" ∧ (⟨"CensusWalk", "distance", "(II)I"⟩ : MethodName).cls ≠ "java/lang/invoke/VarHandle" ∧ (parseMethodDescriptor (⟨"CensusWalk", "distance", "(II)I"⟩ : MethodName).desc).map (fun d => d.parameters.length) = some 2 := by decide +kernel
def wp_X10_distance (E : ms_En) (u : ms_St) (o : Nat) (a1 : Int32) (a2 : Int32) (post : Int32 → ms_St → Prop) (px : String → ms_St → Prop) : Prop := wp_X10_checkHouse E u o a1 (fun u2 => wp_X10_checkHouse E u2 o a2 (fun u7 => wp_X10_refreshRoutes E u7 o (fun u11 => wp_X1_betweenHouses E u11 (ms_at E o 8) (ms_at E o 3) a1 a2 (fun r24 u24 => post r24 u24))) px) px
set_option maxHeartbeats 4000000 in
set_option maxRecDepth 100000 in
theorem c_X10_distance (l : Launch) (G : va_G) (cy : Nat → ClassId) (L : Nat → Nat) (E : ms_En) (hE : ms_WT E) (hl9 : l.stackTraces = false) (u : ms_St) (o : Nat) (a1 : Int32) (a2 : Int32) (ho : ms_is E o 10) (post : Int32 → ms_St → Prop) (px : String → ms_St → Prop) (h : wp_X10_distance E u o a1 a2 post px) : ms_XI l ⟨"CensusWalk", "distance", "(II)I"⟩ (Cond.code ⟨"CensusWalk", "distance", "(II)I"⟩ prog_1_method_9_code 3 (some .int) :: lw_g) ({ frames := 7, cells := 2, slots := 12, locals := 141 } : Room) G cy L E [.ref (L o), .int a1, .int a2] u post px 2 12 := by
  refine ms_enterXI (lv := [(0, .ref (L o)), (1, .int a1), (2, .int a2)]) (by decide) (Nat.le_of_ble_eq_true rfl) rfl ?_
  intro p e s m args below meth c A C hr hlocks hnx
  unfold wp_X10_distance at h
  refine a_aload_n C dX10_distance_0 rfl 0 rfl rfl ?_
  refine a_iload_n C dX10_distance_1 rfl 1 rfl rfl ?_
  refine a_xcallVI C hnx hlocks (c_X10_checkHouse l G cy L E hE hl9 u o a1 ho _ _ h) ho rfl (by decide) kw_4_152 kw_4_154 kp_25 kw_1_1 kw_4_155 rfl rfl pd_X10_checkHouse ⟨(Nat.le_of_ble_eq_true rfl), (Nat.le_of_ble_eq_true rfl)⟩ dX10_distance_2 rfl (Nat.le_of_ble_eq_true rfl) ⟨(Nat.le_of_ble_eq_true rfl), (Nat.le_of_ble_eq_true rfl)⟩ ⟨(Nat.le_of_ble_eq_true rfl), (Nat.le_of_ble_eq_true rfl)⟩ rfl (fun u2 h => ?_)
  refine a_aload_n C dX10_distance_5 rfl 0 rfl rfl ?_
  refine a_iload_n C dX10_distance_6 rfl 2 rfl rfl ?_
  refine a_xcallVI C hnx hlocks (c_X10_checkHouse l G cy L E hE hl9 u2 o a2 ho _ _ h) ho rfl (by decide) kw_4_152 kw_4_154 kp_25 kw_1_1 kw_4_155 rfl rfl pd_X10_checkHouse ⟨(Nat.le_of_ble_eq_true rfl), (Nat.le_of_ble_eq_true rfl)⟩ dX10_distance_7 rfl (Nat.le_of_ble_eq_true rfl) ⟨(Nat.le_of_ble_eq_true rfl), (Nat.le_of_ble_eq_true rfl)⟩ ⟨(Nat.le_of_ble_eq_true rfl), (Nat.le_of_ble_eq_true rfl)⟩ rfl (fun u7 h => ?_)
  refine a_aload_n C dX10_distance_10 rfl 0 rfl rfl ?_
  refine a_callVV C (c_X10_refreshRoutes l G cy L E hE u7 o ho _ h) ho rfl (by decide) kw_2_226 kw_2_228 kp_2 kw_1_1 kw_2_229 rfl rfl pd_X10_refreshRoutes ⟨(Nat.le_of_ble_eq_true rfl), (Nat.le_of_ble_eq_true rfl)⟩ dX10_distance_11 rfl (Nat.le_of_ble_eq_true rfl) ⟨(Nat.le_of_ble_eq_true rfl), (Nat.le_of_ble_eq_true rfl)⟩ rfl (fun u11 h => ?_)
  refine a_aload_n C dX10_distance_14 rfl 0 rfl rfl ?_
  refine g_10_8 C hE dX10_distance_15 ho kw_2_158 rfl ?_
  have k15 : ms_is E (ms_at E o 8) 1 := ms_wt hE ho rfl (by decide)
  refine a_aload_n C dX10_distance_18 rfl 0 rfl rfl ?_
  refine g_10_3 C hE dX10_distance_19 ho kw_2_153 rfl ?_
  have k19 : ms_is E (ms_at E o 3) 7 := ms_wt hE ho rfl (by decide)
  refine a_iload_n C dX10_distance_22 rfl 1 rfl rfl ?_
  refine a_iload_n C dX10_distance_23 rfl 2 rfl rfl ?_
  refine a_callVI C (c_X1_betweenHouses l G cy L E hE u11 (ms_at E o 8) (ms_at E o 3) a1 a2 k15 k19 _ h) k15 rfl (by decide) kw_4_173 kw_3_50 kw_3_51 kw_1_9 kw_3_52 rfl rfl pd_X1_betweenHouses ⟨(Nat.le_of_ble_eq_true rfl), (Nat.le_of_ble_eq_true rfl)⟩ dX10_distance_24 rfl (Nat.le_of_ble_eq_true rfl) ⟨(Nat.le_of_ble_eq_true rfl), (Nat.le_of_ble_eq_true rfl)⟩ rfl (fun r24 u24 h => ?_)
  refine a_retXI ?_
  exact a_iret C dX10_distance_27 hr hlocks (Nat.le_of_ble_eq_true rfl) (Nat.le_of_ble_eq_true rfl) h

/-! CensusWalk.distanceFrom(II)I -/
theorem pd_X10_distanceFrom : (⟨"CensusWalk", "distanceFrom", "(II)I"⟩ : MethodName).cls = "CensusWalk" ∧ (⟨"CensusWalk", "distanceFrom", "(II)I"⟩ : MethodName).cls ≠ "java/lang/invoke/MethodHandle" ∧ (⟨"CensusWalk", "distanceFrom", "(II)I"⟩ : MethodName).cls ≠ "java/lang/invoke/VarHandle" ∧ (parseMethodDescriptor (⟨"CensusWalk", "distanceFrom", "(II)I"⟩ : MethodName).desc).map (fun d => d.parameters.length) = some 2 := by decide +kernel
def wp_X10_distanceFrom_15 (E : ms_En) (o : Nat) (a1 : Int32) (a2 : Int32) (post : Int32 → ms_St → Prop) (px : String → ms_St → Prop)  (u : ms_St)  : Prop := px "java/lang/IndexOutOfBoundsException" u
set_option maxHeartbeats 4000000 in
set_option maxRecDepth 100000 in
theorem c_X10_distanceFrom_15 {p : Program} {l : Launch} {e : Env} {s : State} {m : MethodId} {args : Array Value} {below : List Frame} {meth : Method} {c : Code} {G : va_G} {cy : Nat → ClassId} {A : Nat → Prop} {L : Nat → Nat} {E : ms_En} (C : ms_Cx p m c cX10_distanceFrom 3 s args (Cond.code ⟨"CensusWalk", "distanceFrom", "(II)I"⟩ prog_1_method_10_code 3 (some .int)) "CensusWalk" G cy A) (hr : meth.sig.returnType = (some .int)) (hlocks : meth.locks = false) (hnx : ∀ x ∈ c.exceptionTable.toList, False) (hl9 : l.stackTraces = false) (hE : ms_WT E) {o : Nat} {a1 : Int32} {a2 : Int32} {post : Int32 → ms_St → Prop} {px : String → ms_St → Prop}  (ho : ms_is E o 10)  (u : ms_St)   (h : wp_X10_distanceFrom_15 E o a1 a2 post px u ) : ms_At p l e ({ frames := 7, cells := 2, slots := 12, locals := 141 } : Room) s m args below meth c 3 G cy A L 1 6 (ms_QXI below args s G cy L E A post px 2 12) E u 15 [] [] := by
  unfold wp_X10_distanceFrom_15 at h
  exact a_throwI (j := 12) C hl9 hnx hlocks (by decide +kernel) rfl rfl kw_4_157 kw_1_23 (x_136 C) (by decide +kernel) dX10_distanceFrom_15 dX10_distanceFrom_18 dX10_distanceFrom_19 dX10_distanceFrom_21 dX10_distanceFrom_24 (Nat.le_of_ble_eq_true rfl) (Nat.le_of_ble_eq_true rfl) (Nat.le_of_ble_eq_true rfl) (Nat.le_of_ble_eq_true rfl) (Nat.le_of_ble_eq_true rfl) (Nat.le_of_ble_eq_true rfl) h
def wp_X10_distanceFrom (E : ms_En) (u : ms_St) (o : Nat) (a1 : Int32) (a2 : Int32) (post : Int32 → ms_St → Prop) (px : String → ms_St → Prop) : Prop := (a1 < 0 → wp_X10_distanceFrom_15 E o a1 a2 post px u) ∧ (¬ a1 < 0 → (a1 < (ms_I u (ms_at E o 3) 0) → wp_X10_checkHouse E u o a2 (fun u27 => wp_X10_refreshRoutes E u27 o (fun u31 => wp_X1_fromCrossing E u31 (ms_at E o 8) (ms_at E o 3) a1 a2 (fun r44 u44 => post r44 u44))) px) ∧ (¬ a1 < (ms_I u (ms_at E o 3) 0) → wp_X10_distanceFrom_15 E o a1 a2 post px u))
set_option maxHeartbeats 4000000 in
set_option maxRecDepth 100000 in
theorem c_X10_distanceFrom (l : Launch) (G : va_G) (cy : Nat → ClassId) (L : Nat → Nat) (E : ms_En) (hE : ms_WT E) (hl9 : l.stackTraces = false) (u : ms_St) (o : Nat) (a1 : Int32) (a2 : Int32) (ho : ms_is E o 10) (post : Int32 → ms_St → Prop) (px : String → ms_St → Prop) (h : wp_X10_distanceFrom E u o a1 a2 post px) : ms_XI l ⟨"CensusWalk", "distanceFrom", "(II)I"⟩ (Cond.code ⟨"CensusWalk", "distanceFrom", "(II)I"⟩ prog_1_method_10_code 3 (some .int) :: lw_g) ({ frames := 7, cells := 2, slots := 12, locals := 141 } : Room) G cy L E [.ref (L o), .int a1, .int a2] u post px 2 12 := by
  refine ms_enterXI (lv := [(0, .ref (L o)), (1, .int a1), (2, .int a2)]) (by decide) (Nat.le_of_ble_eq_true rfl) rfl ?_
  intro p e s m args below meth c A C hr hlocks hnx
  unfold wp_X10_distanceFrom at h
  refine a_iload_n C dX10_distanceFrom_0 rfl 1 rfl rfl ?_
  refine a_if_lt (tgt := 15) C dX10_distanceFrom_1 (by decide) rfl (fun hc => ?_) (fun hc => ?_)
  · replace h := h.1 hc
    refine a_wid (k := 1) (n := 6) (Nat.le_of_ble_eq_true rfl) (Nat.le_of_ble_eq_true rfl) ?_
    refine a_sub (lv' := []) [] rfl ?_
    exact c_X10_distanceFrom_15 C hr hlocks hnx hl9 hE ho  u  h
  · replace h := h.2 hc
    refine a_iload_n C dX10_distanceFrom_4 rfl 1 rfl rfl ?_
    refine a_aload_n C dX10_distanceFrom_5 rfl 0 rfl rfl ?_
    refine g_10_3 C hE dX10_distanceFrom_6 ho kw_2_153 rfl ?_
    have k6 : ms_is E (ms_at E o 3) 7 := ms_wt hE ho rfl (by decide)
    refine g_7_0 C dX10_distanceFrom_9 k6 kw_1_168 rfl ?_
    refine a_icmp_lt (tgt := 25) C dX10_distanceFrom_12 (by decide) rfl (fun hc => ?_) (fun hc => ?_)
    · replace h := h.1 hc
      refine a_aload_n C dX10_distanceFrom_25 rfl 0 rfl rfl ?_
      refine a_iload_n C dX10_distanceFrom_26 rfl 2 rfl rfl ?_
      refine a_xcallVI C hnx hlocks (c_X10_checkHouse l G cy L E hE hl9 u o a2 ho _ _ h) ho rfl (by decide) kw_4_152 kw_4_154 kp_25 kw_1_1 kw_4_155 rfl rfl pd_X10_checkHouse ⟨(Nat.le_of_ble_eq_true rfl), (Nat.le_of_ble_eq_true rfl)⟩ dX10_distanceFrom_27 rfl (Nat.le_of_ble_eq_true rfl) ⟨(Nat.le_of_ble_eq_true rfl), (Nat.le_of_ble_eq_true rfl)⟩ ⟨(Nat.le_of_ble_eq_true rfl), (Nat.le_of_ble_eq_true rfl)⟩ rfl (fun u27 h => ?_)
      refine a_aload_n C dX10_distanceFrom_30 rfl 0 rfl rfl ?_
      refine a_callVV C (c_X10_refreshRoutes l G cy L E hE u27 o ho _ h) ho rfl (by decide) kw_2_226 kw_2_228 kp_2 kw_1_1 kw_2_229 rfl rfl pd_X10_refreshRoutes ⟨(Nat.le_of_ble_eq_true rfl), (Nat.le_of_ble_eq_true rfl)⟩ dX10_distanceFrom_31 rfl (Nat.le_of_ble_eq_true rfl) ⟨(Nat.le_of_ble_eq_true rfl), (Nat.le_of_ble_eq_true rfl)⟩ rfl (fun u31 h => ?_)
      refine a_aload_n C dX10_distanceFrom_34 rfl 0 rfl rfl ?_
      refine g_10_8 C hE dX10_distanceFrom_35 ho kw_2_158 rfl ?_
      have k35 : ms_is E (ms_at E o 8) 1 := ms_wt hE ho rfl (by decide)
      refine a_aload_n C dX10_distanceFrom_38 rfl 0 rfl rfl ?_
      refine g_10_3 C hE dX10_distanceFrom_39 ho kw_2_153 rfl ?_
      refine a_iload_n C dX10_distanceFrom_42 rfl 1 rfl rfl ?_
      refine a_iload_n C dX10_distanceFrom_43 rfl 2 rfl rfl ?_
      refine a_callVI C (c_X1_fromCrossing l G cy L E hE u31 (ms_at E o 8) (ms_at E o 3) a1 a2 k35 k6 _ h) k35 rfl (by decide) kw_4_182 kw_3_31 kw_3_32 kw_1_9 kw_3_33 rfl rfl pd_X1_fromCrossing ⟨(Nat.le_of_ble_eq_true rfl), (Nat.le_of_ble_eq_true rfl)⟩ dX10_distanceFrom_44 rfl (Nat.le_of_ble_eq_true rfl) ⟨(Nat.le_of_ble_eq_true rfl), (Nat.le_of_ble_eq_true rfl)⟩ rfl (fun r44 u44 h => ?_)
      refine a_retXI ?_
      exact a_iret C dX10_distanceFrom_47 hr hlocks (Nat.le_of_ble_eq_true rfl) (Nat.le_of_ble_eq_true rfl) h
    · replace h := h.2 hc
      refine a_wid (k := 1) (n := 6) (Nat.le_of_ble_eq_true rfl) (Nat.le_of_ble_eq_true rfl) ?_
      refine a_sub (lv' := []) [] rfl ?_
      exact c_X10_distanceFrom_15 C hr hlocks hnx hl9 hE ho  u  h

/-! CensusWalk.streetOf(I)I -/
theorem pd_X10_streetOf : (⟨"CensusWalk", "streetOf", "(I)I"⟩ : MethodName).cls = "CensusWalk" ∧ (⟨"CensusWalk", "streetOf", "(I)I"⟩ : MethodName).cls ≠ "java/lang/invoke/MethodHandle" ∧ (⟨"CensusWalk", "streetOf", "(I)I"⟩ : MethodName).cls ≠ "java/lang/invoke/VarHandle" ∧ (parseMethodDescriptor (⟨"CensusWalk", "streetOf", "(I)I"⟩ : MethodName).desc).map (fun d => d.parameters.length) = some 1 := by decide +kernel
def wp_X10_streetOf (E : ms_En) (u : ms_St) (o : Nat) (a1 : Int32) (post : Int32 → ms_St → Prop) (px : String → ms_St → Prop) : Prop := wp_X10_checkHouse E u o a1 (fun u2 => vp_in a1 16 ∧ (post (ms_I u2 (ms_at E (ms_at E (ms_at E o 3) 4) 1) (Int32.toNatClampNeg a1)) u2)) px
set_option maxHeartbeats 4000000 in
set_option maxRecDepth 100000 in
theorem c_X10_streetOf (l : Launch) (G : va_G) (cy : Nat → ClassId) (L : Nat → Nat) (E : ms_En) (hE : ms_WT E) (hl9 : l.stackTraces = false) (u : ms_St) (o : Nat) (a1 : Int32) (ho : ms_is E o 10) (post : Int32 → ms_St → Prop) (px : String → ms_St → Prop) (h : wp_X10_streetOf E u o a1 post px) : ms_XI l ⟨"CensusWalk", "streetOf", "(I)I"⟩ (Cond.code ⟨"CensusWalk", "streetOf", "(I)I"⟩ prog_1_method_11_code 2 (some .int) :: lw_g) ({ frames := 7, cells := 1, slots := 6, locals := 141 } : Room) G cy L E [.ref (L o), .int a1] u post px 1 6 := by
  refine ms_enterXI (lv := [(0, .ref (L o)), (1, .int a1)]) (by decide) (Nat.le_of_ble_eq_true rfl) rfl ?_
  intro p e s m args below meth c A C hr hlocks hnx
  unfold wp_X10_streetOf at h
  refine a_aload_n C dX10_streetOf_0 rfl 0 rfl rfl ?_
  refine a_iload_n C dX10_streetOf_1 rfl 1 rfl rfl ?_
  refine a_xcallVI C hnx hlocks (c_X10_checkHouse l G cy L E hE hl9 u o a1 ho _ _ h) ho rfl (by decide) kw_4_152 kw_4_154 kp_25 kw_1_1 kw_4_155 rfl rfl pd_X10_checkHouse ⟨(Nat.le_of_ble_eq_true rfl), (Nat.le_of_ble_eq_true rfl)⟩ dX10_streetOf_2 rfl (Nat.le_of_ble_eq_true rfl) ⟨(Nat.le_of_ble_eq_true rfl), (Nat.le_of_ble_eq_true rfl)⟩ ⟨(Nat.le_of_ble_eq_true rfl), (Nat.le_of_ble_eq_true rfl)⟩ rfl (fun u2 h => ?_)
  refine a_aload_n C dX10_streetOf_5 rfl 0 rfl rfl ?_
  refine g_10_3 C hE dX10_streetOf_6 ho kw_2_153 rfl ?_
  have k6 : ms_is E (ms_at E o 3) 7 := ms_wt hE ho rfl (by decide)
  refine g_7_4 C hE dX10_streetOf_9 k6 kw_1_181 rfl ?_
  have k9 : ms_is E (ms_at E (ms_at E o 3) 4) 0 := ms_wt hE k6 rfl (by decide)
  refine g_0_1 C hE dX10_streetOf_12 k9 kw_1_90 rfl ?_
  have k12 : ms_is E (ms_at E (ms_at E (ms_at E o 3) 4) 1) 13 := ms_wt hE k9 rfl (by decide)
  have n12 : ms_N E (ms_at E (ms_at E (ms_at E o 3) 4) 1) = 16 := ms_wl hE k9 (by decide) (by decide) rfl
  refine a_iload_n C dX10_streetOf_15 rfl 1 rfl rfl ?_
  obtain ⟨q16, h⟩ := h
  refine a_iald C dX10_streetOf_16 k12 n12 q16 rfl ?_
  refine a_retXI ?_
  exact a_iret C dX10_streetOf_17 hr hlocks (Nat.le_of_ble_eq_true rfl) (Nat.le_of_ble_eq_true rfl) h

/-! CensusWalk.checkStreet(I)V -/
theorem pd_X10_checkStreet : (⟨"CensusWalk", "checkStreet", "(I)V"⟩ : MethodName).cls = "CensusWalk" ∧ (⟨"CensusWalk", "checkStreet", "(I)V"⟩ : MethodName).cls ≠ "java/lang/invoke/MethodHandle" ∧ (⟨"CensusWalk", "checkStreet", "(I)V"⟩ : MethodName).cls ≠ "java/lang/invoke/VarHandle" ∧ (parseMethodDescriptor (⟨"CensusWalk", "checkStreet", "(I)V"⟩ : MethodName).desc).map (fun d => d.parameters.length) = some 1 := by decide +kernel
def wp_X10_checkStreet (E : ms_En) (u : ms_St) (o : Nat) (a1 : Int32) (post : ms_St → Prop) (px : String → ms_St → Prop) : Prop := wp_X5_has E u (ms_at E (ms_at E o 3) 3) a1 (fun r8 u8 => (r8 = 0 → px "java/lang/IndexOutOfBoundsException" u8) ∧ (¬ r8 = 0 → post u8))
set_option maxHeartbeats 4000000 in
set_option maxRecDepth 100000 in
theorem c_X10_checkStreet (l : Launch) (G : va_G) (cy : Nat → ClassId) (L : Nat → Nat) (E : ms_En) (hE : ms_WT E) (hl9 : l.stackTraces = false) (u : ms_St) (o : Nat) (a1 : Int32) (ho : ms_is E o 10) (post : ms_St → Prop) (px : String → ms_St → Prop) (h : wp_X10_checkStreet E u o a1 post px) : ms_XV l ⟨"CensusWalk", "checkStreet", "(I)V"⟩ (Cond.code ⟨"CensusWalk", "checkStreet", "(I)V"⟩ prog_1_method_41_code 2 none :: lw_g) ({ frames := 6, cells := 1, slots := 6, locals := 120 } : Room) G cy L E [.ref (L o), .int a1] u post px 1 6 := by
  refine ms_enterXV (lv := [(0, .ref (L o)), (1, .int a1)]) (by decide) (Nat.le_of_ble_eq_true rfl) rfl ?_
  intro p e s m args below meth c A C hr hlocks hnx
  unfold wp_X10_checkStreet at h
  refine a_aload_n C dX10_checkStreet_0 rfl 0 rfl rfl ?_
  refine g_10_3 C hE dX10_checkStreet_1 ho kw_2_153 rfl ?_
  have k1 : ms_is E (ms_at E o 3) 7 := ms_wt hE ho rfl (by decide)
  refine g_7_3 C hE dX10_checkStreet_4 k1 kw_1_178 rfl ?_
  have k4 : ms_is E (ms_at E (ms_at E o 3) 3) 5 := ms_wt hE k1 rfl (by decide)
  refine a_iload_n C dX10_checkStreet_7 rfl 1 rfl rfl ?_
  refine a_callVI C (c_X5_has l G cy L E hE u (ms_at E (ms_at E o 3) 3) a1 k4 _ h) k4 rfl (by decide) kw_4_201 kw_3_43 kw_3_44 kw_1_3 kw_3_45 rfl rfl pd_X5_has ⟨(Nat.le_of_ble_eq_true rfl), (Nat.le_of_ble_eq_true rfl)⟩ dX10_checkStreet_8 rfl (Nat.le_of_ble_eq_true rfl) ⟨(Nat.le_of_ble_eq_true rfl), (Nat.le_of_ble_eq_true rfl)⟩ rfl (fun r8 u8 h => ?_)
  refine a_if_ne (tgt := 25) C dX10_checkStreet_11 (by decide) rfl (fun hc => ?_) (fun hc => ?_)
  · replace h := h.2 hc
    refine a_retXV ?_
    exact a_vret C dX10_checkStreet_25 hr hlocks (Nat.le_of_ble_eq_true rfl) (Nat.le_of_ble_eq_true rfl) h
  · replace h := h.1 hc
    exact a_throwWV (j := 13) C hl9 hnx hlocks (by decide +kernel) rfl rfl kw_4_157 kw_1_23 (x_136 C) (by decide +kernel) dX10_checkStreet_14 dX10_checkStreet_17 dX10_checkStreet_18 dX10_checkStreet_21 dX10_checkStreet_24 (Nat.le_of_ble_eq_true rfl) (Nat.le_of_ble_eq_true rfl) (Nat.le_of_ble_eq_true rfl) (Nat.le_of_ble_eq_true rfl) (Nat.le_of_ble_eq_true rfl) (Nat.le_of_ble_eq_true rfl) h

/-! CensusWalk.isOpen(I)Z -/
theorem pd_X10_isOpen : (⟨"CensusWalk", "isOpen", "(I)Z"⟩ : MethodName).cls = "CensusWalk" ∧ (⟨"CensusWalk", "isOpen", "(I)Z"⟩ : MethodName).cls ≠ "java/lang/invoke/MethodHandle" ∧ (⟨"CensusWalk", "isOpen", "(I)Z"⟩ : MethodName).cls ≠ "java/lang/invoke/VarHandle" ∧ (parseMethodDescriptor (⟨"CensusWalk", "isOpen", "(I)Z"⟩ : MethodName).desc).map (fun d => d.parameters.length) = some 1 := by decide +kernel
def wp_X10_isOpen (E : ms_En) (u : ms_St) (o : Nat) (a1 : Int32) (post : Int32 → ms_St → Prop) (px : String → ms_St → Prop) : Prop := wp_X10_checkStreet E u o a1 (fun u2 => vp_in a1 12 ∧ (((ms_I u2 (ms_at E (ms_at E (ms_at E o 3) 3) 4) (Int32.toNatClampNeg a1)) = 0 ∨ (ms_I u2 (ms_at E (ms_at E (ms_at E o 3) 3) 4) (Int32.toNatClampNeg a1)) = 1) ∧ (post (ms_I u2 (ms_at E (ms_at E (ms_at E o 3) 3) 4) (Int32.toNatClampNeg a1)) u2))) px
set_option maxHeartbeats 4000000 in
set_option maxRecDepth 100000 in
theorem c_X10_isOpen (l : Launch) (G : va_G) (cy : Nat → ClassId) (L : Nat → Nat) (E : ms_En) (hE : ms_WT E) (hl9 : l.stackTraces = false) (u : ms_St) (o : Nat) (a1 : Int32) (ho : ms_is E o 10) (post : Int32 → ms_St → Prop) (px : String → ms_St → Prop) (h : wp_X10_isOpen E u o a1 post px) : ms_XI l ⟨"CensusWalk", "isOpen", "(I)Z"⟩ (Cond.code ⟨"CensusWalk", "isOpen", "(I)Z"⟩ prog_1_method_12_code 2 (some .boolean) :: lw_g) ({ frames := 7, cells := 1, slots := 6, locals := 141 } : Room) G cy L E [.ref (L o), .int a1] u post px 1 6 := by
  refine ms_enterXI (lv := [(0, .ref (L o)), (1, .int a1)]) (by decide) (Nat.le_of_ble_eq_true rfl) rfl ?_
  intro p e s m args below meth c A C hr hlocks hnx
  unfold wp_X10_isOpen at h
  refine a_aload_n C dX10_isOpen_0 rfl 0 rfl rfl ?_
  refine a_iload_n C dX10_isOpen_1 rfl 1 rfl rfl ?_
  refine a_xcallVI C hnx hlocks (c_X10_checkStreet l G cy L E hE hl9 u o a1 ho _ _ h) ho rfl (by decide) kw_4_197 kw_4_199 kp_26 kw_1_1 kw_4_200 rfl rfl pd_X10_checkStreet ⟨(Nat.le_of_ble_eq_true rfl), (Nat.le_of_ble_eq_true rfl)⟩ dX10_isOpen_2 rfl (Nat.le_of_ble_eq_true rfl) ⟨(Nat.le_of_ble_eq_true rfl), (Nat.le_of_ble_eq_true rfl)⟩ ⟨(Nat.le_of_ble_eq_true rfl), (Nat.le_of_ble_eq_true rfl)⟩ rfl (fun u2 h => ?_)
  refine a_aload_n C dX10_isOpen_5 rfl 0 rfl rfl ?_
  refine g_10_3 C hE dX10_isOpen_6 ho kw_2_153 rfl ?_
  have k6 : ms_is E (ms_at E o 3) 7 := ms_wt hE ho rfl (by decide)
  refine g_7_3 C hE dX10_isOpen_9 k6 kw_1_178 rfl ?_
  have k9 : ms_is E (ms_at E (ms_at E o 3) 3) 5 := ms_wt hE k6 rfl (by decide)
  refine g_5_4 C hE dX10_isOpen_12 k9 kw_1_61 rfl ?_
  have k12 : ms_is E (ms_at E (ms_at E (ms_at E o 3) 3) 4) 15 := ms_wt hE k9 rfl (by decide)
  have n12 : ms_N E (ms_at E (ms_at E (ms_at E o 3) 3) 4) = 12 := ms_wl hE k9 (by decide) (by decide) rfl
  refine a_iload_n C dX10_isOpen_15 rfl 1 rfl rfl ?_
  obtain ⟨q16, h⟩ := h
  refine a_zald C dX10_isOpen_16 k12 n12 q16 rfl ?_
  refine a_retXI ?_
  obtain ⟨q17, h⟩ := h
  exact a_zret C dX10_isOpen_17 hr hlocks (Nat.le_of_ble_eq_true rfl) (Nat.le_of_ble_eq_true rfl) (ms_nz q17) h

/-! CensusWalk.hasDog(I)Z -/
theorem pd_X10_hasDog : (⟨"CensusWalk", "hasDog", "(I)Z"⟩ : MethodName).cls = "CensusWalk" ∧ (⟨"CensusWalk", "hasDog", "(I)Z"⟩ : MethodName).cls ≠ "java/lang/invoke/MethodHandle" ∧ (⟨"CensusWalk", "hasDog", "(I)Z"⟩ : MethodName).cls ≠ "java/lang/invoke/VarHandle" ∧ (parseMethodDescriptor (⟨"CensusWalk", "hasDog", "(I)Z"⟩ : MethodName).desc).map (fun d => d.parameters.length) = some 1 := by decide +kernel
def wp_X10_hasDog (E : ms_En) (u : ms_St) (o : Nat) (a1 : Int32) (post : Int32 → ms_St → Prop) (px : String → ms_St → Prop) : Prop := wp_X10_checkHouse E u o a1 (fun u2 => vp_in a1 16 ∧ (((ms_I u2 (ms_at E (ms_at E (ms_at E o 3) 4) 7) (Int32.toNatClampNeg a1)) = 0 ∨ (ms_I u2 (ms_at E (ms_at E (ms_at E o 3) 4) 7) (Int32.toNatClampNeg a1)) = 1) ∧ (post (ms_I u2 (ms_at E (ms_at E (ms_at E o 3) 4) 7) (Int32.toNatClampNeg a1)) u2))) px
set_option maxHeartbeats 4000000 in
set_option maxRecDepth 100000 in
theorem c_X10_hasDog (l : Launch) (G : va_G) (cy : Nat → ClassId) (L : Nat → Nat) (E : ms_En) (hE : ms_WT E) (hl9 : l.stackTraces = false) (u : ms_St) (o : Nat) (a1 : Int32) (ho : ms_is E o 10) (post : Int32 → ms_St → Prop) (px : String → ms_St → Prop) (h : wp_X10_hasDog E u o a1 post px) : ms_XI l ⟨"CensusWalk", "hasDog", "(I)Z"⟩ (Cond.code ⟨"CensusWalk", "hasDog", "(I)Z"⟩ prog_1_method_13_code 2 (some .boolean) :: lw_g) ({ frames := 7, cells := 1, slots := 6, locals := 141 } : Room) G cy L E [.ref (L o), .int a1] u post px 1 6 := by
  refine ms_enterXI (lv := [(0, .ref (L o)), (1, .int a1)]) (by decide) (Nat.le_of_ble_eq_true rfl) rfl ?_
  intro p e s m args below meth c A C hr hlocks hnx
  unfold wp_X10_hasDog at h
  refine a_aload_n C dX10_hasDog_0 rfl 0 rfl rfl ?_
  refine a_iload_n C dX10_hasDog_1 rfl 1 rfl rfl ?_
  refine a_xcallVI C hnx hlocks (c_X10_checkHouse l G cy L E hE hl9 u o a1 ho _ _ h) ho rfl (by decide) kw_4_152 kw_4_154 kp_25 kw_1_1 kw_4_155 rfl rfl pd_X10_checkHouse ⟨(Nat.le_of_ble_eq_true rfl), (Nat.le_of_ble_eq_true rfl)⟩ dX10_hasDog_2 rfl (Nat.le_of_ble_eq_true rfl) ⟨(Nat.le_of_ble_eq_true rfl), (Nat.le_of_ble_eq_true rfl)⟩ ⟨(Nat.le_of_ble_eq_true rfl), (Nat.le_of_ble_eq_true rfl)⟩ rfl (fun u2 h => ?_)
  refine a_aload_n C dX10_hasDog_5 rfl 0 rfl rfl ?_
  refine g_10_3 C hE dX10_hasDog_6 ho kw_2_153 rfl ?_
  have k6 : ms_is E (ms_at E o 3) 7 := ms_wt hE ho rfl (by decide)
  refine g_7_4 C hE dX10_hasDog_9 k6 kw_1_181 rfl ?_
  have k9 : ms_is E (ms_at E (ms_at E o 3) 4) 0 := ms_wt hE k6 rfl (by decide)
  refine g_0_7 C hE dX10_hasDog_12 k9 kw_1_110 rfl ?_
  have k12 : ms_is E (ms_at E (ms_at E (ms_at E o 3) 4) 7) 15 := ms_wt hE k9 rfl (by decide)
  have n12 : ms_N E (ms_at E (ms_at E (ms_at E o 3) 4) 7) = 16 := ms_wl hE k9 (by decide) (by decide) rfl
  refine a_iload_n C dX10_hasDog_15 rfl 1 rfl rfl ?_
  obtain ⟨q16, h⟩ := h
  refine a_zald C dX10_hasDog_16 k12 n12 q16 rfl ?_
  refine a_retXI ?_
  obtain ⟨q17, h⟩ := h
  exact a_zret C dX10_hasDog_17 hr hlocks (Nat.le_of_ble_eq_true rfl) (Nat.le_of_ble_eq_true rfl) (ms_nz q17) h

/-! CensusWalk.isHome(II)Z -/
theorem pd_X10_isHome : (⟨"CensusWalk", "isHome", "(II)Z"⟩ : MethodName).cls = "CensusWalk" ∧ (⟨"CensusWalk", "isHome", "(II)Z"⟩ : MethodName).cls ≠ "java/lang/invoke/MethodHandle" ∧ (⟨"CensusWalk", "isHome", "(II)Z"⟩ : MethodName).cls ≠ "java/lang/invoke/VarHandle" ∧ (parseMethodDescriptor (⟨"CensusWalk", "isHome", "(II)Z"⟩ : MethodName).desc).map (fun d => d.parameters.length) = some 2 := by decide +kernel
def wp_X10_isHome_16 (E : ms_En) (o : Nat) (a1 : Int32) (a2 : Int32) (post : Int32 → ms_St → Prop) (px : String → ms_St → Prop)  (u : ms_St)  : Prop := px "java/lang/IllegalArgumentException" u
set_option maxHeartbeats 4000000 in
set_option maxRecDepth 100000 in
theorem c_X10_isHome_16 {p : Program} {l : Launch} {e : Env} {s : State} {m : MethodId} {args : Array Value} {below : List Frame} {meth : Method} {c : Code} {G : va_G} {cy : Nat → ClassId} {A : Nat → Prop} {L : Nat → Nat} {E : ms_En} (C : ms_Cx p m c cX10_isHome 3 s args (Cond.code ⟨"CensusWalk", "isHome", "(II)Z"⟩ prog_1_method_14_code 3 (some .boolean)) "CensusWalk" G cy A) (hr : meth.sig.returnType = (some .boolean)) (hlocks : meth.locks = false) (hnx : ∀ x ∈ c.exceptionTable.toList, False) (hl9 : l.stackTraces = false) (hE : ms_WT E) {o : Nat} {a1 : Int32} {a2 : Int32} {post : Int32 → ms_St → Prop} {px : String → ms_St → Prop}  (ho : ms_is E o 10)  (u : ms_St)   (h : wp_X10_isHome_16 E o a1 a2 post px u ) : ms_At p l e ({ frames := 7, cells := 2, slots := 12, locals := 141 } : Room) s m args below meth c 3 G cy A L 1 6 (ms_QXI below args s G cy L E A post px 2 12) E u 16 [] [] := by
  unfold wp_X10_isHome_16 at h
  exact a_throwI (j := 14) C hl9 hnx hlocks (by decide +kernel) rfl rfl kw_3_137 kw_1_16 (x_80 C) (by decide +kernel) dX10_isHome_16 dX10_isHome_19 dX10_isHome_20 dX10_isHome_22 dX10_isHome_25 (Nat.le_of_ble_eq_true rfl) (Nat.le_of_ble_eq_true rfl) (Nat.le_of_ble_eq_true rfl) (Nat.le_of_ble_eq_true rfl) (Nat.le_of_ble_eq_true rfl) (Nat.le_of_ble_eq_true rfl) h
def wp_X10_isHome (E : ms_En) (u : ms_St) (o : Nat) (a1 : Int32) (a2 : Int32) (post : Int32 → ms_St → Prop) (px : String → ms_St → Prop) : Prop := wp_X10_checkHouse E u o a1 (fun u2 => (a2 < 0 → wp_X10_isHome_16 E o a1 a2 post px u2) ∧ (¬ a2 < 0 → (a2 ≤ 9999 → wp_X0_homeAt E u2 (ms_at E (ms_at E o 3) 4) a1 a2 (fun r35 u35 => (r35 = 0 ∨ r35 = 1) ∧ (post r35 u35))) ∧ (¬ a2 ≤ 9999 → wp_X10_isHome_16 E o a1 a2 post px u2))) px
set_option maxHeartbeats 4000000 in
set_option maxRecDepth 100000 in
theorem c_X10_isHome (l : Launch) (G : va_G) (cy : Nat → ClassId) (L : Nat → Nat) (E : ms_En) (hE : ms_WT E) (hl9 : l.stackTraces = false) (u : ms_St) (o : Nat) (a1 : Int32) (a2 : Int32) (ho : ms_is E o 10) (post : Int32 → ms_St → Prop) (px : String → ms_St → Prop) (h : wp_X10_isHome E u o a1 a2 post px) : ms_XI l ⟨"CensusWalk", "isHome", "(II)Z"⟩ (Cond.code ⟨"CensusWalk", "isHome", "(II)Z"⟩ prog_1_method_14_code 3 (some .boolean) :: lw_g) ({ frames := 7, cells := 2, slots := 12, locals := 141 } : Room) G cy L E [.ref (L o), .int a1, .int a2] u post px 2 12 := by
  refine ms_enterXI (lv := [(0, .ref (L o)), (1, .int a1), (2, .int a2)]) (by decide) (Nat.le_of_ble_eq_true rfl) rfl ?_
  intro p e s m args below meth c A C hr hlocks hnx
  unfold wp_X10_isHome at h
  refine a_aload_n C dX10_isHome_0 rfl 0 rfl rfl ?_
  refine a_iload_n C dX10_isHome_1 rfl 1 rfl rfl ?_
  refine a_xcallVI C hnx hlocks (c_X10_checkHouse l G cy L E hE hl9 u o a1 ho _ _ h) ho rfl (by decide) kw_4_152 kw_4_154 kp_25 kw_1_1 kw_4_155 rfl rfl pd_X10_checkHouse ⟨(Nat.le_of_ble_eq_true rfl), (Nat.le_of_ble_eq_true rfl)⟩ dX10_isHome_2 rfl (Nat.le_of_ble_eq_true rfl) ⟨(Nat.le_of_ble_eq_true rfl), (Nat.le_of_ble_eq_true rfl)⟩ ⟨(Nat.le_of_ble_eq_true rfl), (Nat.le_of_ble_eq_true rfl)⟩ rfl (fun u2 h => ?_)
  refine a_iload_n C dX10_isHome_5 rfl 2 rfl rfl ?_
  refine a_if_lt (tgt := 16) C dX10_isHome_6 (by decide) rfl (fun hc => ?_) (fun hc => ?_)
  · replace h := h.1 hc
    refine a_wid (k := 1) (n := 6) (Nat.le_of_ble_eq_true rfl) (Nat.le_of_ble_eq_true rfl) ?_
    refine a_sub (lv' := []) [] rfl ?_
    exact c_X10_isHome_16 C hr hlocks hnx hl9 hE ho  u2  h
  · replace h := h.2 hc
    refine a_iload_n C dX10_isHome_9 rfl 2 rfl rfl ?_
    refine a_sipush (v := 9999) C dX10_isHome_10 (by decide) rfl ?_
    refine a_icmp_le (tgt := 26) C dX10_isHome_13 (by decide) rfl (fun hc => ?_) (fun hc => ?_)
    · replace h := h.1 hc
      refine a_aload_n C dX10_isHome_26 rfl 0 rfl rfl ?_
      refine g_10_3 C hE dX10_isHome_27 ho kw_2_153 rfl ?_
      have k27 : ms_is E (ms_at E o 3) 7 := ms_wt hE ho rfl (by decide)
      refine g_7_4 C hE dX10_isHome_30 k27 kw_1_181 rfl ?_
      have k30 : ms_is E (ms_at E (ms_at E o 3) 4) 0 := ms_wt hE k27 rfl (by decide)
      refine a_iload_n C dX10_isHome_33 rfl 1 rfl rfl ?_
      refine a_iload_n C dX10_isHome_34 rfl 2 rfl rfl ?_
      refine a_callVI C (c_X0_homeAt l G cy L E hE u2 (ms_at E (ms_at E o 3) 4) a1 a2 k30 _ h) k30 rfl (by decide) kw_4_218 kw_3_76 kw_3_77 kw_1_4 kw_3_78 rfl rfl pd_X0_homeAt ⟨(Nat.le_of_ble_eq_true rfl), (Nat.le_of_ble_eq_true rfl)⟩ dX10_isHome_35 rfl (Nat.le_of_ble_eq_true rfl) ⟨(Nat.le_of_ble_eq_true rfl), (Nat.le_of_ble_eq_true rfl)⟩ rfl (fun r35 u35 h => ?_)
      refine a_retXI ?_
      obtain ⟨q38, h⟩ := h
      exact a_zret C dX10_isHome_38 hr hlocks (Nat.le_of_ble_eq_true rfl) (Nat.le_of_ble_eq_true rfl) (ms_nz q38) h
    · replace h := h.2 hc
      refine a_wid (k := 1) (n := 6) (Nat.le_of_ble_eq_true rfl) (Nat.le_of_ble_eq_true rfl) ?_
      refine a_sub (lv' := []) [] rfl ?_
      exact c_X10_isHome_16 C hr hlocks hnx hl9 hE ho  u2  h

/-! CensusWalk.duration(II)I -/
theorem pd_X10_duration : (⟨"CensusWalk", "duration", "(II)I"⟩ : MethodName).cls = "CensusWalk" ∧ (⟨"CensusWalk", "duration", "(II)I"⟩ : MethodName).cls ≠ "java/lang/invoke/MethodHandle" ∧ (⟨"CensusWalk", "duration", "(II)I"⟩ : MethodName).cls ≠ "java/lang/invoke/VarHandle" ∧ (parseMethodDescriptor (⟨"CensusWalk", "duration", "(II)I"⟩ : MethodName).desc).map (fun d => d.parameters.length) = some 2 := by decide +kernel
def wp_X10_duration_25 (E : ms_En) (o : Nat) (a1 : Int32) (a2 : Int32) (post : Int32 → ms_St → Prop) (px : String → ms_St → Prop)  (u : ms_St)  : Prop := wp_X0_visitTime E u (ms_at E (ms_at E o 3) 4) a1 a2 (fun r34 u34 => post r34 u34)
set_option maxHeartbeats 4000000 in
set_option maxRecDepth 100000 in
theorem c_X10_duration_25 {p : Program} {l : Launch} {e : Env} {s : State} {m : MethodId} {args : Array Value} {below : List Frame} {meth : Method} {c : Code} {G : va_G} {cy : Nat → ClassId} {A : Nat → Prop} {L : Nat → Nat} {E : ms_En} (C : ms_Cx p m c cX10_duration 3 s args (Cond.code ⟨"CensusWalk", "duration", "(II)I"⟩ prog_1_method_15_code 3 (some .int)) "CensusWalk" G cy A) (hr : meth.sig.returnType = (some .int)) (hlocks : meth.locks = false) (hnx : ∀ x ∈ c.exceptionTable.toList, False) (hl9 : l.stackTraces = false) (hE : ms_WT E) {o : Nat} {a1 : Int32} {a2 : Int32} {post : Int32 → ms_St → Prop} {px : String → ms_St → Prop}  (ho : ms_is E o 10)  (u : ms_St)   (h : wp_X10_duration_25 E o a1 a2 post px u ) : ms_At p l e ({ frames := 7, cells := 2, slots := 12, locals := 141 } : Room) s m args below meth c 3 G cy A L 1 6 (ms_QXI below args s G cy L E A post px 2 12) E u 25 [(0, .ref (L o)), (1, .int a1), (2, .int a2)] [] := by
  unfold wp_X10_duration_25 at h
  refine a_aload_n C dX10_duration_25 rfl 0 rfl rfl ?_
  refine g_10_3 C hE dX10_duration_26 ho kw_2_153 rfl ?_
  have k26 : ms_is E (ms_at E o 3) 7 := ms_wt hE ho rfl (by decide)
  refine g_7_4 C hE dX10_duration_29 k26 kw_1_181 rfl ?_
  have k29 : ms_is E (ms_at E (ms_at E o 3) 4) 0 := ms_wt hE k26 rfl (by decide)
  refine a_iload_n C dX10_duration_32 rfl 1 rfl rfl ?_
  refine a_iload_n C dX10_duration_33 rfl 2 rfl rfl ?_
  refine a_callVI C (c_X0_visitTime l G cy L E hE u (ms_at E (ms_at E o 3) 4) a1 a2 k29 _ h) k29 rfl (by decide) kw_4_227 kw_3_81 kw_3_82 kw_1_4 kw_3_83 rfl rfl pd_X0_visitTime ⟨(Nat.le_of_ble_eq_true rfl), (Nat.le_of_ble_eq_true rfl)⟩ dX10_duration_34 rfl (Nat.le_of_ble_eq_true rfl) ⟨(Nat.le_of_ble_eq_true rfl), (Nat.le_of_ble_eq_true rfl)⟩ rfl (fun r34 u34 h => ?_)
  refine a_retXI ?_
  exact a_iret C dX10_duration_37 hr hlocks (Nat.le_of_ble_eq_true rfl) (Nat.le_of_ble_eq_true rfl) h
def wp_X10_duration (E : ms_En) (u : ms_St) (o : Nat) (a1 : Int32) (a2 : Int32) (post : Int32 → ms_St → Prop) (px : String → ms_St → Prop) : Prop := wp_X10_checkHouse E u o a1 (fun u2 => (a2 = 1 → wp_X10_duration_25 E o a1 a2 post px u2) ∧ (¬ a2 = 1 → (a2 = 2 → wp_X10_duration_25 E o a1 a2 post px u2) ∧ (¬ a2 = 2 → px "java/lang/IllegalArgumentException" u2))) px
set_option maxHeartbeats 4000000 in
set_option maxRecDepth 100000 in
theorem c_X10_duration (l : Launch) (G : va_G) (cy : Nat → ClassId) (L : Nat → Nat) (E : ms_En) (hE : ms_WT E) (hl9 : l.stackTraces = false) (u : ms_St) (o : Nat) (a1 : Int32) (a2 : Int32) (ho : ms_is E o 10) (post : Int32 → ms_St → Prop) (px : String → ms_St → Prop) (h : wp_X10_duration E u o a1 a2 post px) : ms_XI l ⟨"CensusWalk", "duration", "(II)I"⟩ (Cond.code ⟨"CensusWalk", "duration", "(II)I"⟩ prog_1_method_15_code 3 (some .int) :: lw_g) ({ frames := 7, cells := 2, slots := 12, locals := 141 } : Room) G cy L E [.ref (L o), .int a1, .int a2] u post px 2 12 := by
  refine ms_enterXI (lv := [(0, .ref (L o)), (1, .int a1), (2, .int a2)]) (by decide) (Nat.le_of_ble_eq_true rfl) rfl ?_
  intro p e s m args below meth c A C hr hlocks hnx
  unfold wp_X10_duration at h
  refine a_aload_n C dX10_duration_0 rfl 0 rfl rfl ?_
  refine a_iload_n C dX10_duration_1 rfl 1 rfl rfl ?_
  refine a_xcallVI C hnx hlocks (c_X10_checkHouse l G cy L E hE hl9 u o a1 ho _ _ h) ho rfl (by decide) kw_4_152 kw_4_154 kp_25 kw_1_1 kw_4_155 rfl rfl pd_X10_checkHouse ⟨(Nat.le_of_ble_eq_true rfl), (Nat.le_of_ble_eq_true rfl)⟩ dX10_duration_2 rfl (Nat.le_of_ble_eq_true rfl) ⟨(Nat.le_of_ble_eq_true rfl), (Nat.le_of_ble_eq_true rfl)⟩ ⟨(Nat.le_of_ble_eq_true rfl), (Nat.le_of_ble_eq_true rfl)⟩ rfl (fun u2 h => ?_)
  refine a_iload_n C dX10_duration_5 rfl 2 rfl rfl ?_
  refine a_iconst (v := 1) C dX10_duration_6 (by decide) rfl ?_
  refine a_icmp_eq (tgt := 25) C dX10_duration_7 (by decide) rfl (fun hc => ?_) (fun hc => ?_)
  · replace h := h.1 hc
    refine a_wid (k := 1) (n := 6) (Nat.le_of_ble_eq_true rfl) (Nat.le_of_ble_eq_true rfl) ?_
    exact c_X10_duration_25 C hr hlocks hnx hl9 hE ho  u2  h
  · replace h := h.2 hc
    refine a_iload_n C dX10_duration_10 rfl 2 rfl rfl ?_
    refine a_iconst (v := 2) C dX10_duration_11 (by decide) rfl ?_
    refine a_icmp_eq (tgt := 25) C dX10_duration_12 (by decide) rfl (fun hc => ?_) (fun hc => ?_)
    · replace h := h.1 hc
      refine a_wid (k := 1) (n := 6) (Nat.le_of_ble_eq_true rfl) (Nat.le_of_ble_eq_true rfl) ?_
      exact c_X10_duration_25 C hr hlocks hnx hl9 hE ho  u2  h
    · replace h := h.2 hc
      exact a_throwI (j := 15) C hl9 hnx hlocks (by decide +kernel) rfl rfl kw_3_137 kw_1_16 (x_80 C) (by decide +kernel) dX10_duration_15 dX10_duration_18 dX10_duration_19 dX10_duration_21 dX10_duration_24 (Nat.le_of_ble_eq_true rfl) (Nat.le_of_ble_eq_true rfl) (Nat.le_of_ble_eq_true rfl) (Nat.le_of_ble_eq_true rfl) (Nat.le_of_ble_eq_true rfl) (Nat.le_of_ble_eq_true rfl) h

/-! CensusWalk.checkWalker(I)V -/
theorem pd_X10_checkWalker : (⟨"CensusWalk", "checkWalker", "(I)V"⟩ : MethodName).cls = "CensusWalk" ∧ (⟨"CensusWalk", "checkWalker", "(I)V"⟩ : MethodName).cls ≠ "java/lang/invoke/MethodHandle" ∧ (⟨"CensusWalk", "checkWalker", "(I)V"⟩ : MethodName).cls ≠ "java/lang/invoke/VarHandle" ∧ (parseMethodDescriptor (⟨"CensusWalk", "checkWalker", "(I)V"⟩ : MethodName).desc).map (fun d => d.parameters.length) = some 1 := by decide +kernel
def wp_X10_checkWalker (E : ms_En) (u : ms_St) (o : Nat) (a1 : Int32) (post : ms_St → Prop) (px : String → ms_St → Prop) : Prop := wp_X9_has E u (ms_at E (ms_at E o 3) 5) a1 (fun r8 u8 => (r8 = 0 → px "java/lang/IndexOutOfBoundsException" u8) ∧ (¬ r8 = 0 → post u8))
set_option maxHeartbeats 4000000 in
set_option maxRecDepth 100000 in
theorem c_X10_checkWalker (l : Launch) (G : va_G) (cy : Nat → ClassId) (L : Nat → Nat) (E : ms_En) (hE : ms_WT E) (hl9 : l.stackTraces = false) (u : ms_St) (o : Nat) (a1 : Int32) (ho : ms_is E o 10) (post : ms_St → Prop) (px : String → ms_St → Prop) (h : wp_X10_checkWalker E u o a1 post px) : ms_XV l ⟨"CensusWalk", "checkWalker", "(I)V"⟩ (Cond.code ⟨"CensusWalk", "checkWalker", "(I)V"⟩ prog_1_method_43_code 2 none :: lw_g) ({ frames := 6, cells := 1, slots := 6, locals := 120 } : Room) G cy L E [.ref (L o), .int a1] u post px 1 6 := by
  refine ms_enterXV (lv := [(0, .ref (L o)), (1, .int a1)]) (by decide) (Nat.le_of_ble_eq_true rfl) rfl ?_
  intro p e s m args below meth c A C hr hlocks hnx
  unfold wp_X10_checkWalker at h
  refine a_aload_n C dX10_checkWalker_0 rfl 0 rfl rfl ?_
  refine g_10_3 C hE dX10_checkWalker_1 ho kw_2_153 rfl ?_
  have k1 : ms_is E (ms_at E o 3) 7 := ms_wt hE ho rfl (by decide)
  refine g_7_5 C hE dX10_checkWalker_4 k1 kw_1_189 rfl ?_
  have k4 : ms_is E (ms_at E (ms_at E o 3) 5) 9 := ms_wt hE k1 rfl (by decide)
  refine a_iload_n C dX10_checkWalker_7 rfl 1 rfl rfl ?_
  refine a_callVI C (c_X9_has l G cy L E hE u (ms_at E (ms_at E o 3) 5) a1 k4 _ h) k4 rfl (by decide) kw_4_239 kw_3_27 kw_3_28 kw_1_5 kw_3_29 rfl rfl pd_X9_has ⟨(Nat.le_of_ble_eq_true rfl), (Nat.le_of_ble_eq_true rfl)⟩ dX10_checkWalker_8 rfl (Nat.le_of_ble_eq_true rfl) ⟨(Nat.le_of_ble_eq_true rfl), (Nat.le_of_ble_eq_true rfl)⟩ rfl (fun r8 u8 h => ?_)
  refine a_if_ne (tgt := 25) C dX10_checkWalker_11 (by decide) rfl (fun hc => ?_) (fun hc => ?_)
  · replace h := h.2 hc
    refine a_retXV ?_
    exact a_vret C dX10_checkWalker_25 hr hlocks (Nat.le_of_ble_eq_true rfl) (Nat.le_of_ble_eq_true rfl) h
  · replace h := h.1 hc
    exact a_throwWV (j := 16) C hl9 hnx hlocks (by decide +kernel) rfl rfl kw_4_157 kw_1_23 (x_136 C) (by decide +kernel) dX10_checkWalker_14 dX10_checkWalker_17 dX10_checkWalker_18 dX10_checkWalker_21 dX10_checkWalker_24 (Nat.le_of_ble_eq_true rfl) (Nat.le_of_ble_eq_true rfl) (Nat.le_of_ble_eq_true rfl) (Nat.le_of_ble_eq_true rfl) (Nat.le_of_ble_eq_true rfl) (Nat.le_of_ble_eq_true rfl) h

/-! CensusWalk.planLength(I)I -/
theorem pd_X10_planLength : (⟨"CensusWalk", "planLength", "(I)I"⟩ : MethodName).cls = "CensusWalk" ∧ (⟨"CensusWalk", "planLength", "(I)I"⟩ : MethodName).cls ≠ "java/lang/invoke/MethodHandle" ∧ (⟨"CensusWalk", "planLength", "(I)I"⟩ : MethodName).cls ≠ "java/lang/invoke/VarHandle" ∧ (parseMethodDescriptor (⟨"CensusWalk", "planLength", "(I)I"⟩ : MethodName).desc).map (fun d => d.parameters.length) = some 1 := by decide +kernel
def wp_X10_planLength (E : ms_En) (u : ms_St) (o : Nat) (a1 : Int32) (post : Int32 → ms_St → Prop) (px : String → ms_St → Prop) : Prop := wp_X10_checkWalker E u o a1 (fun u2 => vp_in a1 3 ∧ (post (ms_I u2 (ms_at E (ms_at E (ms_at E o 3) 5) 3) (Int32.toNatClampNeg a1)) u2)) px
set_option maxHeartbeats 4000000 in
set_option maxRecDepth 100000 in
theorem c_X10_planLength (l : Launch) (G : va_G) (cy : Nat → ClassId) (L : Nat → Nat) (E : ms_En) (hE : ms_WT E) (hl9 : l.stackTraces = false) (u : ms_St) (o : Nat) (a1 : Int32) (ho : ms_is E o 10) (post : Int32 → ms_St → Prop) (px : String → ms_St → Prop) (h : wp_X10_planLength E u o a1 post px) : ms_XI l ⟨"CensusWalk", "planLength", "(I)I"⟩ (Cond.code ⟨"CensusWalk", "planLength", "(I)I"⟩ prog_1_method_16_code 2 (some .int) :: lw_g) ({ frames := 7, cells := 1, slots := 6, locals := 141 } : Room) G cy L E [.ref (L o), .int a1] u post px 1 6 := by
  refine ms_enterXI (lv := [(0, .ref (L o)), (1, .int a1)]) (by decide) (Nat.le_of_ble_eq_true rfl) rfl ?_
  intro p e s m args below meth c A C hr hlocks hnx
  unfold wp_X10_planLength at h
  refine a_aload_n C dX10_planLength_0 rfl 0 rfl rfl ?_
  refine a_iload_n C dX10_planLength_1 rfl 1 rfl rfl ?_
  refine a_xcallVI C hnx hlocks (c_X10_checkWalker l G cy L E hE hl9 u o a1 ho _ _ h) ho rfl (by decide) kw_4_235 kw_4_237 kp_27 kw_1_1 kw_4_238 rfl rfl pd_X10_checkWalker ⟨(Nat.le_of_ble_eq_true rfl), (Nat.le_of_ble_eq_true rfl)⟩ dX10_planLength_2 rfl (Nat.le_of_ble_eq_true rfl) ⟨(Nat.le_of_ble_eq_true rfl), (Nat.le_of_ble_eq_true rfl)⟩ ⟨(Nat.le_of_ble_eq_true rfl), (Nat.le_of_ble_eq_true rfl)⟩ rfl (fun u2 h => ?_)
  refine a_aload_n C dX10_planLength_5 rfl 0 rfl rfl ?_
  refine g_10_3 C hE dX10_planLength_6 ho kw_2_153 rfl ?_
  have k6 : ms_is E (ms_at E o 3) 7 := ms_wt hE ho rfl (by decide)
  refine g_7_5 C hE dX10_planLength_9 k6 kw_1_189 rfl ?_
  have k9 : ms_is E (ms_at E (ms_at E o 3) 5) 9 := ms_wt hE k6 rfl (by decide)
  refine g_9_3 C hE dX10_planLength_12 k9 kw_1_151 rfl ?_
  have k12 : ms_is E (ms_at E (ms_at E (ms_at E o 3) 5) 3) 13 := ms_wt hE k9 rfl (by decide)
  have n12 : ms_N E (ms_at E (ms_at E (ms_at E o 3) 5) 3) = 3 := ms_wl hE k9 (by decide) (by decide) rfl
  refine a_iload_n C dX10_planLength_15 rfl 1 rfl rfl ?_
  obtain ⟨q16, h⟩ := h
  refine a_iald C dX10_planLength_16 k12 n12 q16 rfl ?_
  refine a_retXI ?_
  exact a_iret C dX10_planLength_17 hr hlocks (Nat.le_of_ble_eq_true rfl) (Nat.le_of_ble_eq_true rfl) h

/-! CensusWalk.checkPlanIndex(II)V -/
theorem pd_X10_checkPlanIndex : (⟨"CensusWalk", "checkPlanIndex", "(II)V"⟩ : MethodName).cls = "CensusWalk" ∧ (⟨"CensusWalk", "checkPlanIndex", "(II)V"⟩ : MethodName).cls ≠ "java/lang/invoke/MethodHandle" ∧ (⟨"CensusWalk", "checkPlanIndex", "(II)V"⟩ : MethodName).cls ≠ "java/lang/invoke/VarHandle" ∧ (parseMethodDescriptor (⟨"CensusWalk", "checkPlanIndex", "(II)V"⟩ : MethodName).desc).map (fun d => d.parameters.length) = some 2 := by decide +kernel
def wp_X10_checkPlanIndex_25 (E : ms_En) (o : Nat) (a1 : Int32) (a2 : Int32) (post : ms_St → Prop) (px : String → ms_St → Prop)  (u : ms_St)  : Prop := px "java/lang/IndexOutOfBoundsException" u
set_option maxHeartbeats 4000000 in
set_option maxRecDepth 100000 in
theorem c_X10_checkPlanIndex_25 {p : Program} {l : Launch} {e : Env} {s : State} {m : MethodId} {args : Array Value} {below : List Frame} {meth : Method} {c : Code} {G : va_G} {cy : Nat → ClassId} {A : Nat → Prop} {L : Nat → Nat} {E : ms_En} (C : ms_Cx p m c cX10_checkPlanIndex 3 s args (Cond.code ⟨"CensusWalk", "checkPlanIndex", "(II)V"⟩ prog_1_method_44_code 3 none) "CensusWalk" G cy A) (hr : meth.sig.returnType = none) (hlocks : meth.locks = false) (hnx : ∀ x ∈ c.exceptionTable.toList, False) (hl9 : l.stackTraces = false) (hE : ms_WT E) {o : Nat} {a1 : Int32} {a2 : Int32} {post : ms_St → Prop} {px : String → ms_St → Prop}  (ho : ms_is E o 10)  (u : ms_St)   (h : wp_X10_checkPlanIndex_25 E o a1 a2 post px u ) : ms_At p l e ({ frames := 7, cells := 2, slots := 12, locals := 141 } : Room) s m args below meth c 3 G cy A L 1 6 (ms_QXV below args s G cy L E A post px 2 12) E u 25 [] [] := by
  unfold wp_X10_checkPlanIndex_25 at h
  exact a_throwWV (j := 17) C hl9 hnx hlocks (by decide +kernel) rfl rfl kw_4_157 kw_1_23 (x_136 C) (by decide +kernel) dX10_checkPlanIndex_25 dX10_checkPlanIndex_28 dX10_checkPlanIndex_29 dX10_checkPlanIndex_32 dX10_checkPlanIndex_35 (Nat.le_of_ble_eq_true rfl) (Nat.le_of_ble_eq_true rfl) (Nat.le_of_ble_eq_true rfl) (Nat.le_of_ble_eq_true rfl) (Nat.le_of_ble_eq_true rfl) (Nat.le_of_ble_eq_true rfl) h
def wp_X10_checkPlanIndex (E : ms_En) (u : ms_St) (o : Nat) (a1 : Int32) (a2 : Int32) (post : ms_St → Prop) (px : String → ms_St → Prop) : Prop := wp_X10_checkWalker E u o a1 (fun u2 => (a2 < 0 → wp_X10_checkPlanIndex_25 E o a1 a2 post px u2) ∧ (¬ a2 < 0 → vp_in a1 3 ∧ ((a2 < (ms_I u2 (ms_at E (ms_at E (ms_at E o 3) 5) 3) (Int32.toNatClampNeg a1)) → post u2) ∧ (¬ a2 < (ms_I u2 (ms_at E (ms_at E (ms_at E o 3) 5) 3) (Int32.toNatClampNeg a1)) → wp_X10_checkPlanIndex_25 E o a1 a2 post px u2)))) px
set_option maxHeartbeats 4000000 in
set_option maxRecDepth 100000 in
theorem c_X10_checkPlanIndex (l : Launch) (G : va_G) (cy : Nat → ClassId) (L : Nat → Nat) (E : ms_En) (hE : ms_WT E) (hl9 : l.stackTraces = false) (u : ms_St) (o : Nat) (a1 : Int32) (a2 : Int32) (ho : ms_is E o 10) (post : ms_St → Prop) (px : String → ms_St → Prop) (h : wp_X10_checkPlanIndex E u o a1 a2 post px) : ms_XV l ⟨"CensusWalk", "checkPlanIndex", "(II)V"⟩ (Cond.code ⟨"CensusWalk", "checkPlanIndex", "(II)V"⟩ prog_1_method_44_code 3 none :: lw_g) ({ frames := 7, cells := 2, slots := 12, locals := 141 } : Room) G cy L E [.ref (L o), .int a1, .int a2] u post px 2 12 := by
  refine ms_enterXV (lv := [(0, .ref (L o)), (1, .int a1), (2, .int a2)]) (by decide) (Nat.le_of_ble_eq_true rfl) rfl ?_
  intro p e s m args below meth c A C hr hlocks hnx
  unfold wp_X10_checkPlanIndex at h
  refine a_aload_n C dX10_checkPlanIndex_0 rfl 0 rfl rfl ?_
  refine a_iload_n C dX10_checkPlanIndex_1 rfl 1 rfl rfl ?_
  refine a_xcallVV C hnx hlocks (c_X10_checkWalker l G cy L E hE hl9 u o a1 ho _ _ h) ho rfl (by decide) kw_4_235 kw_4_237 kp_27 kw_1_1 kw_4_238 rfl rfl pd_X10_checkWalker ⟨(Nat.le_of_ble_eq_true rfl), (Nat.le_of_ble_eq_true rfl)⟩ dX10_checkPlanIndex_2 rfl (Nat.le_of_ble_eq_true rfl) ⟨(Nat.le_of_ble_eq_true rfl), (Nat.le_of_ble_eq_true rfl)⟩ ⟨(Nat.le_of_ble_eq_true rfl), (Nat.le_of_ble_eq_true rfl)⟩ rfl (fun u2 h => ?_)
  refine a_iload_n C dX10_checkPlanIndex_5 rfl 2 rfl rfl ?_
  refine a_if_lt (tgt := 25) C dX10_checkPlanIndex_6 (by decide) rfl (fun hc => ?_) (fun hc => ?_)
  · replace h := h.1 hc
    refine a_wid (k := 1) (n := 6) (Nat.le_of_ble_eq_true rfl) (Nat.le_of_ble_eq_true rfl) ?_
    refine a_sub (lv' := []) [] rfl ?_
    exact c_X10_checkPlanIndex_25 C hr hlocks hnx hl9 hE ho  u2  h
  · replace h := h.2 hc
    refine a_iload_n C dX10_checkPlanIndex_9 rfl 2 rfl rfl ?_
    refine a_aload_n C dX10_checkPlanIndex_10 rfl 0 rfl rfl ?_
    refine g_10_3 C hE dX10_checkPlanIndex_11 ho kw_2_153 rfl ?_
    have k11 : ms_is E (ms_at E o 3) 7 := ms_wt hE ho rfl (by decide)
    refine g_7_5 C hE dX10_checkPlanIndex_14 k11 kw_1_189 rfl ?_
    have k14 : ms_is E (ms_at E (ms_at E o 3) 5) 9 := ms_wt hE k11 rfl (by decide)
    refine g_9_3 C hE dX10_checkPlanIndex_17 k14 kw_1_151 rfl ?_
    have k17 : ms_is E (ms_at E (ms_at E (ms_at E o 3) 5) 3) 13 := ms_wt hE k14 rfl (by decide)
    have n17 : ms_N E (ms_at E (ms_at E (ms_at E o 3) 5) 3) = 3 := ms_wl hE k14 (by decide) (by decide) rfl
    refine a_iload_n C dX10_checkPlanIndex_20 rfl 1 rfl rfl ?_
    obtain ⟨q21, h⟩ := h
    refine a_iald C dX10_checkPlanIndex_21 k17 n17 q21 rfl ?_
    refine a_icmp_lt (tgt := 36) C dX10_checkPlanIndex_22 (by decide) rfl (fun hc => ?_) (fun hc => ?_)
    · replace h := h.1 hc
      refine a_retXV ?_
      exact a_vret C dX10_checkPlanIndex_36 hr hlocks (Nat.le_of_ble_eq_true rfl) (Nat.le_of_ble_eq_true rfl) h
    · replace h := h.2 hc
      refine a_wid (k := 1) (n := 6) (Nat.le_of_ble_eq_true rfl) (Nat.le_of_ble_eq_true rfl) ?_
      refine a_sub (lv' := []) [] rfl ?_
      exact c_X10_checkPlanIndex_25 C hr hlocks hnx hl9 hE ho  u2  h

/-! CensusWalk.planned(II)I -/
theorem pd_X10_planned : (⟨"CensusWalk", "planned", "(II)I"⟩ : MethodName).cls = "CensusWalk" ∧ (⟨"CensusWalk", "planned", "(II)I"⟩ : MethodName).cls ≠ "java/lang/invoke/MethodHandle" ∧ (⟨"CensusWalk", "planned", "(II)I"⟩ : MethodName).cls ≠ "java/lang/invoke/VarHandle" ∧ (parseMethodDescriptor (⟨"CensusWalk", "planned", "(II)I"⟩ : MethodName).desc).map (fun d => d.parameters.length) = some 2 := by decide +kernel
def wp_X10_planned (E : ms_En) (u : ms_St) (o : Nat) (a1 : Int32) (a2 : Int32) (post : Int32 → ms_St → Prop) (px : String → ms_St → Prop) : Prop := wp_X10_checkPlanIndex E u o a1 a2 (fun u3 => wp_X9_plannedHouse E u3 (ms_at E (ms_at E o 3) 5) a1 a2 (fun r15 u15 => post r15 u15)) px
set_option maxHeartbeats 4000000 in
set_option maxRecDepth 100000 in
theorem c_X10_planned (l : Launch) (G : va_G) (cy : Nat → ClassId) (L : Nat → Nat) (E : ms_En) (hE : ms_WT E) (hl9 : l.stackTraces = false) (u : ms_St) (o : Nat) (a1 : Int32) (a2 : Int32) (ho : ms_is E o 10) (post : Int32 → ms_St → Prop) (px : String → ms_St → Prop) (h : wp_X10_planned E u o a1 a2 post px) : ms_XI l ⟨"CensusWalk", "planned", "(II)I"⟩ (Cond.code ⟨"CensusWalk", "planned", "(II)I"⟩ prog_1_method_17_code 3 (some .int) :: lw_g) ({ frames := 8, cells := 2, slots := 12, locals := 163 } : Room) G cy L E [.ref (L o), .int a1, .int a2] u post px 2 12 := by
  refine ms_enterXI (lv := [(0, .ref (L o)), (1, .int a1), (2, .int a2)]) (by decide) (Nat.le_of_ble_eq_true rfl) rfl ?_
  intro p e s m args below meth c A C hr hlocks hnx
  unfold wp_X10_planned at h
  refine a_aload_n C dX10_planned_0 rfl 0 rfl rfl ?_
  refine a_iload_n C dX10_planned_1 rfl 1 rfl rfl ?_
  refine a_iload_n C dX10_planned_2 rfl 2 rfl rfl ?_
  refine a_xcallVI C hnx hlocks (c_X10_checkPlanIndex l G cy L E hE hl9 u o a1 a2 ho _ _ h) ho rfl (by decide) kw_5_8 kw_5_10 kp_28 kw_1_1 kw_5_11 rfl rfl pd_X10_checkPlanIndex ⟨(Nat.le_of_ble_eq_true rfl), (Nat.le_of_ble_eq_true rfl)⟩ dX10_planned_3 rfl (Nat.le_of_ble_eq_true rfl) ⟨(Nat.le_of_ble_eq_true rfl), (Nat.le_of_ble_eq_true rfl)⟩ ⟨(Nat.le_of_ble_eq_true rfl), (Nat.le_of_ble_eq_true rfl)⟩ rfl (fun u3 h => ?_)
  refine a_aload_n C dX10_planned_6 rfl 0 rfl rfl ?_
  refine g_10_3 C hE dX10_planned_7 ho kw_2_153 rfl ?_
  have k7 : ms_is E (ms_at E o 3) 7 := ms_wt hE ho rfl (by decide)
  refine g_7_5 C hE dX10_planned_10 k7 kw_1_189 rfl ?_
  have k10 : ms_is E (ms_at E (ms_at E o 3) 5) 9 := ms_wt hE k7 rfl (by decide)
  refine a_iload_n C dX10_planned_13 rfl 1 rfl rfl ?_
  refine a_iload_n C dX10_planned_14 rfl 2 rfl rfl ?_
  refine a_callVI C (c_X9_plannedHouse l G cy L E hE u3 (ms_at E (ms_at E o 3) 5) a1 a2 k10 _ h) k10 rfl (by decide) kw_3_128 kw_3_23 kw_3_24 kw_1_5 kw_3_25 rfl rfl pd_X9_plannedHouse ⟨(Nat.le_of_ble_eq_true rfl), (Nat.le_of_ble_eq_true rfl)⟩ dX10_planned_15 rfl (Nat.le_of_ble_eq_true rfl) ⟨(Nat.le_of_ble_eq_true rfl), (Nat.le_of_ble_eq_true rfl)⟩ rfl (fun r15 u15 h => ?_)
  refine a_retXI ?_
  exact a_iret C dX10_planned_18 hr hlocks (Nat.le_of_ble_eq_true rfl) (Nat.le_of_ble_eq_true rfl) h

/-! CensusWalk.refreshSimulation()V -/
theorem pd_X10_refreshSimulation : (⟨"CensusWalk", "refreshSimulation", "()V"⟩ : MethodName).cls = "CensusWalk" ∧ (⟨"CensusWalk", "refreshSimulation", "()V"⟩ : MethodName).cls ≠ "java/lang/invoke/MethodHandle" ∧ (⟨"CensusWalk", "refreshSimulation", "()V"⟩ : MethodName).cls ≠ "java/lang/invoke/VarHandle" ∧ (parseMethodDescriptor (⟨"CensusWalk", "refreshSimulation", "()V"⟩ : MethodName).desc).map (fun d => d.parameters.length) = some 0 := by decide +kernel
def wp_X10_refreshSimulation_31 (E : ms_En) (o : Nat) (post : ms_St → Prop)  (u : ms_St)  : Prop := post u
set_option maxHeartbeats 4000000 in
set_option maxRecDepth 100000 in
theorem c_X10_refreshSimulation_31 {p : Program} {l : Launch} {e : Env} {s : State} {m : MethodId} {args : Array Value} {below : List Frame} {meth : Method} {c : Code} {G : va_G} {cy : Nat → ClassId} {A : Nat → Prop} {L : Nat → Nat} {E : ms_En} (C : ms_Cx p m c cX10_refreshSimulation 1 s args (Cond.code ⟨"CensusWalk", "refreshSimulation", "()V"⟩ prog_1_method_40_code 1 none) "CensusWalk" G cy A) (hr : meth.sig.returnType = none) (hlocks : meth.locks = false) (hE : ms_WT E) {o : Nat} {post : ms_St → Prop}  (ho : ms_is E o 10)  (u : ms_St)   (h : wp_X10_refreshSimulation_31 E o post u ) : ms_At p l e ({ frames := 6, cells := 0, slots := 0, locals := 145 } : Room) s m args below meth c 1 G cy A L 0 0 (ms_QV below args s G cy L E A post 0 0) E u 31 [] [] := by
  unfold wp_X10_refreshSimulation_31 at h
  exact a_vret C dX10_refreshSimulation_31 hr hlocks (Nat.le_of_ble_eq_true rfl) (Nat.le_of_ble_eq_true rfl) h
def wp_X10_refreshSimulation (E : ms_En) (u : ms_St) (o : Nat) (post : ms_St → Prop) : Prop := ((ms_I u o 12) = 0 → wp_X10_refreshRoutes E u o (fun u8 => wp_X4_run E u8 (ms_at E o 9) (ms_at E o 3) (ms_at E o 8) (fun u23 => wp_X10_refreshSimulation_31 E o post (ms_sI u23 o 12 1)))) ∧ (¬ (ms_I u o 12) = 0 → wp_X10_refreshSimulation_31 E o post u)
set_option maxHeartbeats 4000000 in
set_option maxRecDepth 100000 in
theorem c_X10_refreshSimulation (l : Launch) (G : va_G) (cy : Nat → ClassId) (L : Nat → Nat) (E : ms_En) (hE : ms_WT E) (u : ms_St) (o : Nat) (ho : ms_is E o 10) (post : ms_St → Prop) (h : wp_X10_refreshSimulation E u o post) : ms_MetV l ⟨"CensusWalk", "refreshSimulation", "()V"⟩ (Cond.code ⟨"CensusWalk", "refreshSimulation", "()V"⟩ prog_1_method_40_code 1 none :: lw_g) ({ frames := 6, cells := 0, slots := 0, locals := 145 } : Room) G cy L E [.ref (L o)] u post 0 0 := by
  refine ms_enterV (lv := [(0, .ref (L o))]) (by decide) (Nat.le_of_ble_eq_true rfl) rfl ?_
  intro p e s m args below meth c A C hr hlocks
  unfold wp_X10_refreshSimulation at h
  refine a_aload_n C dX10_refreshSimulation_0 rfl 0 rfl rfl ?_
  refine g_10_12 C dX10_refreshSimulation_1 ho kw_2_162 rfl ?_
  refine a_if_ne (tgt := 31) C dX10_refreshSimulation_4 (by decide) rfl (fun hc => ?_) (fun hc => ?_)
  · replace h := h.2 hc
    refine a_sub (lv' := []) [] rfl ?_
    exact c_X10_refreshSimulation_31 C hr hlocks hE ho  u  h
  · replace h := h.1 hc
    refine a_aload_n C dX10_refreshSimulation_7 rfl 0 rfl rfl ?_
    refine a_callVV C (c_X10_refreshRoutes l G cy L E hE u o ho _ h) ho rfl (by decide) kw_2_226 kw_2_228 kp_2 kw_1_1 kw_2_229 rfl rfl pd_X10_refreshRoutes ⟨(Nat.le_of_ble_eq_true rfl), (Nat.le_of_ble_eq_true rfl)⟩ dX10_refreshSimulation_8 rfl (Nat.le_of_ble_eq_true rfl) ⟨(Nat.le_of_ble_eq_true rfl), (Nat.le_of_ble_eq_true rfl)⟩ rfl (fun u8 h => ?_)
    refine a_aload_n C dX10_refreshSimulation_11 rfl 0 rfl rfl ?_
    refine g_10_9 C hE dX10_refreshSimulation_12 ho kw_2_159 rfl ?_
    have k12 : ms_is E (ms_at E o 9) 4 := ms_wt hE ho rfl (by decide)
    refine a_aload_n C dX10_refreshSimulation_15 rfl 0 rfl rfl ?_
    refine g_10_3 C hE dX10_refreshSimulation_16 ho kw_2_153 rfl ?_
    have k16 : ms_is E (ms_at E o 3) 7 := ms_wt hE ho rfl (by decide)
    refine a_aload_n C dX10_refreshSimulation_19 rfl 0 rfl rfl ?_
    refine g_10_8 C hE dX10_refreshSimulation_20 ho kw_2_158 rfl ?_
    have k20 : ms_is E (ms_at E o 8) 1 := ms_wt hE ho rfl (by decide)
    refine a_callVV C (c_X4_run l G cy L E hE u8 (ms_at E o 9) (ms_at E o 3) (ms_at E o 8) k12 k16 k20 _ h) k12 rfl (by decide) kw_3_13 kw_3_14 kw_3_15 kw_1_10 kw_3_16 rfl rfl pd_X4_run ⟨(Nat.le_of_ble_eq_true rfl), (Nat.le_of_ble_eq_true rfl)⟩ dX10_refreshSimulation_23 rfl (Nat.le_of_ble_eq_true rfl) ⟨(Nat.le_of_ble_eq_true rfl), (Nat.le_of_ble_eq_true rfl)⟩ rfl (fun u23 h => ?_)
    refine a_aload_n C dX10_refreshSimulation_26 rfl 0 rfl rfl ?_
    refine a_iconst (v := 1) C dX10_refreshSimulation_27 (by decide) rfl ?_
    refine s_10_12 C dX10_refreshSimulation_28 ho kw_2_162 rfl rfl rfl ?_
    refine a_sub (lv' := []) [] rfl ?_
    exact c_X10_refreshSimulation_31 C hr hlocks hE ho  (ms_sI u23 o 12 1)  h

/-! CensusWalk.result(II)I -/
theorem pd_X10_result : (⟨"CensusWalk", "result", "(II)I"⟩ : MethodName).cls = "CensusWalk" ∧ (⟨"CensusWalk", "result", "(II)I"⟩ : MethodName).cls ≠ "java/lang/invoke/MethodHandle" ∧ (⟨"CensusWalk", "result", "(II)I"⟩ : MethodName).cls ≠ "java/lang/invoke/VarHandle" ∧ (parseMethodDescriptor (⟨"CensusWalk", "result", "(II)I"⟩ : MethodName).desc).map (fun d => d.parameters.length) = some 2 := by decide +kernel
def wp_X10_result (E : ms_En) (u : ms_St) (o : Nat) (a1 : Int32) (a2 : Int32) (post : Int32 → ms_St → Prop) (px : String → ms_St → Prop) : Prop := wp_X10_checkPlanIndex E u o a1 a2 (fun u3 => wp_X10_refreshSimulation E u3 o (fun u7 => vp_in ((a1 * 12) + a2) 36 ∧ (post (ms_I u7 (ms_at E (ms_at E o 9) 0) (Int32.toNatClampNeg ((a1 * 12) + a2))) u7))) px
set_option maxHeartbeats 4000000 in
set_option maxRecDepth 100000 in
theorem c_X10_result (l : Launch) (G : va_G) (cy : Nat → ClassId) (L : Nat → Nat) (E : ms_En) (hE : ms_WT E) (hl9 : l.stackTraces = false) (u : ms_St) (o : Nat) (a1 : Int32) (a2 : Int32) (ho : ms_is E o 10) (post : Int32 → ms_St → Prop) (px : String → ms_St → Prop) (h : wp_X10_result E u o a1 a2 post px) : ms_XI l ⟨"CensusWalk", "result", "(II)I"⟩ (Cond.code ⟨"CensusWalk", "result", "(II)I"⟩ prog_1_method_18_code 3 (some .int) :: lw_g) ({ frames := 8, cells := 2, slots := 12, locals := 165 } : Room) G cy L E [.ref (L o), .int a1, .int a2] u post px 2 12 := by
  refine ms_enterXI (lv := [(0, .ref (L o)), (1, .int a1), (2, .int a2)]) (by decide) (Nat.le_of_ble_eq_true rfl) rfl ?_
  intro p e s m args below meth c A C hr hlocks hnx
  unfold wp_X10_result at h
  refine a_aload_n C dX10_result_0 rfl 0 rfl rfl ?_
  refine a_iload_n C dX10_result_1 rfl 1 rfl rfl ?_
  refine a_iload_n C dX10_result_2 rfl 2 rfl rfl ?_
  refine a_xcallVI C hnx hlocks (c_X10_checkPlanIndex l G cy L E hE hl9 u o a1 a2 ho _ _ h) ho rfl (by decide) kw_5_8 kw_5_10 kp_28 kw_1_1 kw_5_11 rfl rfl pd_X10_checkPlanIndex ⟨(Nat.le_of_ble_eq_true rfl), (Nat.le_of_ble_eq_true rfl)⟩ dX10_result_3 rfl (Nat.le_of_ble_eq_true rfl) ⟨(Nat.le_of_ble_eq_true rfl), (Nat.le_of_ble_eq_true rfl)⟩ ⟨(Nat.le_of_ble_eq_true rfl), (Nat.le_of_ble_eq_true rfl)⟩ rfl (fun u3 h => ?_)
  refine a_aload_n C dX10_result_6 rfl 0 rfl rfl ?_
  refine a_callVV C (c_X10_refreshSimulation l G cy L E hE u3 o ho _ h) ho rfl (by decide) kw_2_222 kw_2_224 kp_1 kw_1_1 kw_2_225 rfl rfl pd_X10_refreshSimulation ⟨(Nat.le_of_ble_eq_true rfl), (Nat.le_of_ble_eq_true rfl)⟩ dX10_result_7 rfl (Nat.le_of_ble_eq_true rfl) ⟨(Nat.le_of_ble_eq_true rfl), (Nat.le_of_ble_eq_true rfl)⟩ rfl (fun u7 h => ?_)
  refine a_aload_n C dX10_result_10 rfl 0 rfl rfl ?_
  refine g_10_9 C hE dX10_result_11 ho kw_2_159 rfl ?_
  have k11 : ms_is E (ms_at E o 9) 4 := ms_wt hE ho rfl (by decide)
  refine g_4_0 C hE dX10_result_14 k11 kw_2_60 rfl ?_
  have k14 : ms_is E (ms_at E (ms_at E o 9) 0) 13 := ms_wt hE k11 rfl (by decide)
  have n14 : ms_N E (ms_at E (ms_at E o 9) 0) = 36 := ms_wl hE k11 (by decide) (by decide) rfl
  refine a_iload_n C dX10_result_17 rfl 1 rfl rfl ?_
  refine a_bipush (v := 12) C dX10_result_18 (by decide) rfl ?_
  refine a_imul C dX10_result_20 rfl ?_
  refine a_iload_n C dX10_result_21 rfl 2 rfl rfl ?_
  refine a_iadd C dX10_result_22 rfl ?_
  obtain ⟨q23, h⟩ := h
  refine a_iald C dX10_result_23 k14 n14 q23 rfl ?_
  refine a_retXI ?_
  exact a_iret C dX10_result_24 hr hlocks (Nat.le_of_ble_eq_true rfl) (Nat.le_of_ble_eq_true rfl) h

/-! CensusWalk.arrival(II)I -/
theorem pd_X10_arrival : (⟨"CensusWalk", "arrival", "(II)I"⟩ : MethodName).cls = "CensusWalk" ∧ (⟨"CensusWalk", "arrival", "(II)I"⟩ : MethodName).cls ≠ "java/lang/invoke/MethodHandle" ∧ (⟨"CensusWalk", "arrival", "(II)I"⟩ : MethodName).cls ≠ "java/lang/invoke/VarHandle" ∧ (parseMethodDescriptor (⟨"CensusWalk", "arrival", "(II)I"⟩ : MethodName).desc).map (fun d => d.parameters.length) = some 2 := by decide +kernel
def wp_X10_arrival (E : ms_En) (u : ms_St) (o : Nat) (a1 : Int32) (a2 : Int32) (post : Int32 → ms_St → Prop) (px : String → ms_St → Prop) : Prop := wp_X10_checkPlanIndex E u o a1 a2 (fun u3 => wp_X10_refreshSimulation E u3 o (fun u7 => vp_in ((a1 * 12) + a2) 36 ∧ (post (ms_I u7 (ms_at E (ms_at E o 9) 1) (Int32.toNatClampNeg ((a1 * 12) + a2))) u7))) px
set_option maxHeartbeats 4000000 in
set_option maxRecDepth 100000 in
theorem c_X10_arrival (l : Launch) (G : va_G) (cy : Nat → ClassId) (L : Nat → Nat) (E : ms_En) (hE : ms_WT E) (hl9 : l.stackTraces = false) (u : ms_St) (o : Nat) (a1 : Int32) (a2 : Int32) (ho : ms_is E o 10) (post : Int32 → ms_St → Prop) (px : String → ms_St → Prop) (h : wp_X10_arrival E u o a1 a2 post px) : ms_XI l ⟨"CensusWalk", "arrival", "(II)I"⟩ (Cond.code ⟨"CensusWalk", "arrival", "(II)I"⟩ prog_1_method_19_code 3 (some .int) :: lw_g) ({ frames := 8, cells := 2, slots := 12, locals := 165 } : Room) G cy L E [.ref (L o), .int a1, .int a2] u post px 2 12 := by
  refine ms_enterXI (lv := [(0, .ref (L o)), (1, .int a1), (2, .int a2)]) (by decide) (Nat.le_of_ble_eq_true rfl) rfl ?_
  intro p e s m args below meth c A C hr hlocks hnx
  unfold wp_X10_arrival at h
  refine a_aload_n C dX10_arrival_0 rfl 0 rfl rfl ?_
  refine a_iload_n C dX10_arrival_1 rfl 1 rfl rfl ?_
  refine a_iload_n C dX10_arrival_2 rfl 2 rfl rfl ?_
  refine a_xcallVI C hnx hlocks (c_X10_checkPlanIndex l G cy L E hE hl9 u o a1 a2 ho _ _ h) ho rfl (by decide) kw_5_8 kw_5_10 kp_28 kw_1_1 kw_5_11 rfl rfl pd_X10_checkPlanIndex ⟨(Nat.le_of_ble_eq_true rfl), (Nat.le_of_ble_eq_true rfl)⟩ dX10_arrival_3 rfl (Nat.le_of_ble_eq_true rfl) ⟨(Nat.le_of_ble_eq_true rfl), (Nat.le_of_ble_eq_true rfl)⟩ ⟨(Nat.le_of_ble_eq_true rfl), (Nat.le_of_ble_eq_true rfl)⟩ rfl (fun u3 h => ?_)
  refine a_aload_n C dX10_arrival_6 rfl 0 rfl rfl ?_
  refine a_callVV C (c_X10_refreshSimulation l G cy L E hE u3 o ho _ h) ho rfl (by decide) kw_2_222 kw_2_224 kp_1 kw_1_1 kw_2_225 rfl rfl pd_X10_refreshSimulation ⟨(Nat.le_of_ble_eq_true rfl), (Nat.le_of_ble_eq_true rfl)⟩ dX10_arrival_7 rfl (Nat.le_of_ble_eq_true rfl) ⟨(Nat.le_of_ble_eq_true rfl), (Nat.le_of_ble_eq_true rfl)⟩ rfl (fun u7 h => ?_)
  refine a_aload_n C dX10_arrival_10 rfl 0 rfl rfl ?_
  refine g_10_9 C hE dX10_arrival_11 ho kw_2_159 rfl ?_
  have k11 : ms_is E (ms_at E o 9) 4 := ms_wt hE ho rfl (by decide)
  refine g_4_1 C hE dX10_arrival_14 k11 kw_2_62 rfl ?_
  have k14 : ms_is E (ms_at E (ms_at E o 9) 1) 13 := ms_wt hE k11 rfl (by decide)
  have n14 : ms_N E (ms_at E (ms_at E o 9) 1) = 36 := ms_wl hE k11 (by decide) (by decide) rfl
  refine a_iload_n C dX10_arrival_17 rfl 1 rfl rfl ?_
  refine a_bipush (v := 12) C dX10_arrival_18 (by decide) rfl ?_
  refine a_imul C dX10_arrival_20 rfl ?_
  refine a_iload_n C dX10_arrival_21 rfl 2 rfl rfl ?_
  refine a_iadd C dX10_arrival_22 rfl ?_
  obtain ⟨q23, h⟩ := h
  refine a_iald C dX10_arrival_23 k14 n14 q23 rfl ?_
  refine a_retXI ?_
  exact a_iret C dX10_arrival_24 hr hlocks (Nat.le_of_ble_eq_true rfl) (Nat.le_of_ble_eq_true rfl) h

/-! CensusWalk.finish(I)I -/
theorem pd_X10_finish : (⟨"CensusWalk", "finish", "(I)I"⟩ : MethodName).cls = "CensusWalk" ∧ (⟨"CensusWalk", "finish", "(I)I"⟩ : MethodName).cls ≠ "java/lang/invoke/MethodHandle" ∧ (⟨"CensusWalk", "finish", "(I)I"⟩ : MethodName).cls ≠ "java/lang/invoke/VarHandle" ∧ (parseMethodDescriptor (⟨"CensusWalk", "finish", "(I)I"⟩ : MethodName).desc).map (fun d => d.parameters.length) = some 1 := by decide +kernel
def wp_X10_finish (E : ms_En) (u : ms_St) (o : Nat) (a1 : Int32) (post : Int32 → ms_St → Prop) (px : String → ms_St → Prop) : Prop := wp_X10_checkWalker E u o a1 (fun u2 => wp_X10_refreshSimulation E u2 o (fun u6 => vp_in a1 3 ∧ (post (ms_I u6 (ms_at E (ms_at E o 9) 2) (Int32.toNatClampNeg a1)) u6))) px
set_option maxHeartbeats 4000000 in
set_option maxRecDepth 100000 in
theorem c_X10_finish (l : Launch) (G : va_G) (cy : Nat → ClassId) (L : Nat → Nat) (E : ms_En) (hE : ms_WT E) (hl9 : l.stackTraces = false) (u : ms_St) (o : Nat) (a1 : Int32) (ho : ms_is E o 10) (post : Int32 → ms_St → Prop) (px : String → ms_St → Prop) (h : wp_X10_finish E u o a1 post px) : ms_XI l ⟨"CensusWalk", "finish", "(I)I"⟩ (Cond.code ⟨"CensusWalk", "finish", "(I)I"⟩ prog_1_method_20_code 2 (some .int) :: lw_g) ({ frames := 7, cells := 1, slots := 6, locals := 165 } : Room) G cy L E [.ref (L o), .int a1] u post px 1 6 := by
  refine ms_enterXI (lv := [(0, .ref (L o)), (1, .int a1)]) (by decide) (Nat.le_of_ble_eq_true rfl) rfl ?_
  intro p e s m args below meth c A C hr hlocks hnx
  unfold wp_X10_finish at h
  refine a_aload_n C dX10_finish_0 rfl 0 rfl rfl ?_
  refine a_iload_n C dX10_finish_1 rfl 1 rfl rfl ?_
  refine a_xcallVI C hnx hlocks (c_X10_checkWalker l G cy L E hE hl9 u o a1 ho _ _ h) ho rfl (by decide) kw_4_235 kw_4_237 kp_27 kw_1_1 kw_4_238 rfl rfl pd_X10_checkWalker ⟨(Nat.le_of_ble_eq_true rfl), (Nat.le_of_ble_eq_true rfl)⟩ dX10_finish_2 rfl (Nat.le_of_ble_eq_true rfl) ⟨(Nat.le_of_ble_eq_true rfl), (Nat.le_of_ble_eq_true rfl)⟩ ⟨(Nat.le_of_ble_eq_true rfl), (Nat.le_of_ble_eq_true rfl)⟩ rfl (fun u2 h => ?_)
  refine a_aload_n C dX10_finish_5 rfl 0 rfl rfl ?_
  refine a_callVV C (c_X10_refreshSimulation l G cy L E hE u2 o ho _ h) ho rfl (by decide) kw_2_222 kw_2_224 kp_1 kw_1_1 kw_2_225 rfl rfl pd_X10_refreshSimulation ⟨(Nat.le_of_ble_eq_true rfl), (Nat.le_of_ble_eq_true rfl)⟩ dX10_finish_6 rfl (Nat.le_of_ble_eq_true rfl) ⟨(Nat.le_of_ble_eq_true rfl), (Nat.le_of_ble_eq_true rfl)⟩ rfl (fun u6 h => ?_)
  refine a_aload_n C dX10_finish_9 rfl 0 rfl rfl ?_
  refine g_10_9 C hE dX10_finish_10 ho kw_2_159 rfl ?_
  have k10 : ms_is E (ms_at E o 9) 4 := ms_wt hE ho rfl (by decide)
  refine g_4_2 C hE dX10_finish_13 k10 kw_2_64 rfl ?_
  have k13 : ms_is E (ms_at E (ms_at E o 9) 2) 13 := ms_wt hE k10 rfl (by decide)
  have n13 : ms_N E (ms_at E (ms_at E o 9) 2) = 3 := ms_wl hE k10 (by decide) (by decide) rfl
  refine a_iload_n C dX10_finish_16 rfl 1 rfl rfl ?_
  obtain ⟨q17, h⟩ := h
  refine a_iald C dX10_finish_17 k13 n13 q17 rfl ?_
  refine a_retXI ?_
  exact a_iret C dX10_finish_18 hr hlocks (Nat.le_of_ble_eq_true rfl) (Nat.le_of_ble_eq_true rfl) h

/-! CensusWalk.finishAll()I -/
theorem pd_X10_finishAll : (⟨"CensusWalk", "finishAll", "()I"⟩ : MethodName).cls = "CensusWalk" ∧ (⟨"CensusWalk", "finishAll", "()I"⟩ : MethodName).cls ≠ "java/lang/invoke/MethodHandle" ∧ (⟨"CensusWalk", "finishAll", "()I"⟩ : MethodName).cls ≠ "java/lang/invoke/VarHandle" ∧ (parseMethodDescriptor (⟨"CensusWalk", "finishAll", "()I"⟩ : MethodName).desc).map (fun d => d.parameters.length) = some 0 := by decide +kernel
def wp_X10_finishAll_51 (E : ms_En) (o : Nat) (post : Int32 → ms_St → Prop) (k8 : ms_St → Int32 → Int32 → Prop) (u : ms_St) (x1 : Int32) (x2 : Int32) : Prop := k8 u x1 (x2 + 1)
set_option maxHeartbeats 4000000 in
set_option maxRecDepth 100000 in
theorem c_X10_finishAll_51 {p : Program} {l : Launch} {e : Env} {s : State} {m : MethodId} {args : Array Value} {below : List Frame} {meth : Method} {c : Code} {G : va_G} {cy : Nat → ClassId} {A : Nat → Prop} {L : Nat → Nat} {E : ms_En} (C : ms_Cx p m c cX10_finishAll 3 s args (Cond.code ⟨"CensusWalk", "finishAll", "()I"⟩ prog_1_method_21_code 3 (some .int)) "CensusWalk" G cy A) (hr : meth.sig.returnType = (some .int)) (hlocks : meth.locks = false) (hE : ms_WT E) {o : Nat} {post : Int32 → ms_St → Prop} {k8 : ms_St → Int32 → Int32 → Prop} (ho : ms_is E o 10) (hk8 : ∀ (u : ms_St) (x1 : Int32) (x2 : Int32), k8 u x1 x2 → ms_At p l e ({ frames := 7, cells := 0, slots := 0, locals := 165 } : Room) s m args below meth c 3 G cy A L 0 0 (ms_QI below args s G cy L E A post 0 0) E u 8 [(0, .ref (L o)), (1, .int x1), (2, .int x2)] []) (u : ms_St) (x1 : Int32) (x2 : Int32)  (h : wp_X10_finishAll_51 E o post k8 u x1 x2) : ms_At p l e ({ frames := 7, cells := 0, slots := 0, locals := 165 } : Room) s m args below meth c 3 G cy A L 0 0 (ms_QI below args s G cy L E A post 0 0) E u 51 [(0, .ref (L o)), (1, .int x1), (2, .int x2)] [] := by
  unfold wp_X10_finishAll_51 at h
  refine a_iinc (lv' := [(0, .ref (L o)), (1, .int x1), (2, .int (x2 + 1))]) (v := (x2 + 1)) C dX10_finishAll_51 2 rfl (congrArg (fun z => x2 + z) (by decide)) (by decide) [1, 2, 0] rfl rfl ?_
  refine a_goto (tgt := 8) C dX10_finishAll_54 (by decide) ?_
  exact hk8 u x1 (x2 + 1)  h
def wp_X10_finishAll_8 (E : ms_En) (o : Nat) (post : Int32 → ms_St → Prop)  : Nat → ms_St → Int32 → Int32 → Prop
  | 0 => fun _ _ _ => False
  | n + 1 => fun u x1 x2 => ((ms_I u (ms_at E (ms_at E o 3) 5) 0) ≤ x2 → post x1 u) ∧ (¬ (ms_I u (ms_at E (ms_at E o 3) 5) 0) ≤ x2 → vp_in x2 3 ∧ (((ms_I u (ms_at E (ms_at E (ms_at E o 3) 5) 3) (Int32.toNatClampNeg x2)) ≤ 0 → wp_X10_finishAll_51 E o post (wp_X10_finishAll_8 E o post n) u x1 x2) ∧ (¬ (ms_I u (ms_at E (ms_at E (ms_at E o 3) 5) 3) (Int32.toNatClampNeg x2)) ≤ 0 → vp_in x2 3 ∧ (∀ v50 : Int32, v50 = (if x1 < (ms_I u (ms_at E (ms_at E o 9) 2) (Int32.toNatClampNeg x2)) then (ms_I u (ms_at E (ms_at E o 9) 2) (Int32.toNatClampNeg x2)) else x1) → (wp_X10_finishAll_51 E o post (wp_X10_finishAll_8 E o post n) u v50 x2)))))
set_option maxHeartbeats 4000000 in
set_option maxRecDepth 100000 in
theorem c_X10_finishAll_8 {p : Program} {l : Launch} {e : Env} {s : State} {m : MethodId} {args : Array Value} {below : List Frame} {meth : Method} {c : Code} {G : va_G} {cy : Nat → ClassId} {A : Nat → Prop} {L : Nat → Nat} {E : ms_En} (C : ms_Cx p m c cX10_finishAll 3 s args (Cond.code ⟨"CensusWalk", "finishAll", "()I"⟩ prog_1_method_21_code 3 (some .int)) "CensusWalk" G cy A) (hr : meth.sig.returnType = (some .int)) (hlocks : meth.locks = false) (hE : ms_WT E) {o : Nat} {post : Int32 → ms_St → Prop}  (ho : ms_is E o 10)  : ∀ (n : Nat) (u : ms_St) (x1 : Int32) (x2 : Int32), wp_X10_finishAll_8 E o post n u x1 x2 → ms_At p l e ({ frames := 7, cells := 0, slots := 0, locals := 165 } : Room) s m args below meth c 3 G cy A L 0 0 (ms_QI below args s G cy L E A post 0 0) E u 8 [(0, .ref (L o)), (1, .int x1), (2, .int x2)] [] := by
  intro n
  induction n with
  | zero =>
    intro u x1 x2  h
    exact absurd h id
  | succ n ih =>
    intro u x1 x2  h
    unfold wp_X10_finishAll_8 at h
    refine a_iload_n C dX10_finishAll_8 rfl 2 rfl rfl ?_
    refine a_aload_n C dX10_finishAll_9 rfl 0 rfl rfl ?_
    refine g_10_3 C hE dX10_finishAll_10 ho kw_2_153 rfl ?_
    have k10 : ms_is E (ms_at E o 3) 7 := ms_wt hE ho rfl (by decide)
    refine g_7_5 C hE dX10_finishAll_13 k10 kw_1_189 rfl ?_
    have k13 : ms_is E (ms_at E (ms_at E o 3) 5) 9 := ms_wt hE k10 rfl (by decide)
    refine g_9_0 C dX10_finishAll_16 k13 kw_1_142 rfl ?_
    refine a_icmp_ge (tgt := 57) C dX10_finishAll_19 (by decide) rfl (fun hc => ?_) (fun hc => ?_)
    · replace h := h.1 hc
      refine a_iload_n C dX10_finishAll_57 rfl 1 rfl rfl ?_
      exact a_iret C dX10_finishAll_58 hr hlocks (Nat.le_of_ble_eq_true rfl) (Nat.le_of_ble_eq_true rfl) h
    · replace h := h.2 hc
      refine a_aload_n C dX10_finishAll_22 rfl 0 rfl rfl ?_
      refine g_10_3 C hE dX10_finishAll_23 ho kw_2_153 rfl ?_
      refine g_7_5 C hE dX10_finishAll_26 k10 kw_1_189 rfl ?_
      refine g_9_3 C hE dX10_finishAll_29 k13 kw_1_151 rfl ?_
      have k29 : ms_is E (ms_at E (ms_at E (ms_at E o 3) 5) 3) 13 := ms_wt hE k13 rfl (by decide)
      have n29 : ms_N E (ms_at E (ms_at E (ms_at E o 3) 5) 3) = 3 := ms_wl hE k13 (by decide) (by decide) rfl
      refine a_iload_n C dX10_finishAll_32 rfl 2 rfl rfl ?_
      obtain ⟨q33, h⟩ := h
      refine a_iald C dX10_finishAll_33 k29 n29 q33 rfl ?_
      refine a_if_le (tgt := 51) C dX10_finishAll_34 (by decide) rfl (fun hc => ?_) (fun hc => ?_)
      · replace h := h.1 hc
        exact c_X10_finishAll_51 C hr hlocks hE ho ih u x1 x2  h
      · replace h := h.2 hc
        refine a_iload_n C dX10_finishAll_37 rfl 1 rfl rfl ?_
        refine a_aload_n C dX10_finishAll_38 rfl 0 rfl rfl ?_
        refine g_10_9 C hE dX10_finishAll_39 ho kw_2_159 rfl ?_
        have k39 : ms_is E (ms_at E o 9) 4 := ms_wt hE ho rfl (by decide)
        refine g_4_2 C hE dX10_finishAll_42 k39 kw_2_64 rfl ?_
        have k42 : ms_is E (ms_at E (ms_at E o 9) 2) 13 := ms_wt hE k39 rfl (by decide)
        have n42 : ms_N E (ms_at E (ms_at E o 9) 2) = 3 := ms_wl hE k39 (by decide) (by decide) rfl
        refine a_iload_n C dX10_finishAll_45 rfl 2 rfl rfl ?_
        obtain ⟨q46, h⟩ := h
        refine a_iald C dX10_finishAll_46 k42 n42 q46 rfl ?_
        refine a_mmax C dX10_finishAll_47 kw_3_84 kw_3_61 kw_1_17 kw_3_62 (Nat.le_of_ble_eq_true rfl) (Nat.le_of_ble_eq_true rfl) (Nat.le_of_ble_eq_true rfl) (Nat.le_of_ble_eq_true rfl) rfl ?_
        refine a_nmI (fun v50 e50 => ?_)
        replace h := h v50 e50
        refine a_istore_n (lv' := [(0, .ref (L o)), (1, .int v50), (2, .int x2)]) C dX10_finishAll_50 rfl (by decide) [1, 0, 2] rfl rfl ?_
        exact c_X10_finishAll_51 C hr hlocks hE ho ih u v50 x2  h
def wp_X10_finishAll (E : ms_En) (u : ms_St) (o : Nat) (post : Int32 → ms_St → Prop) : Prop := wp_X10_refreshSimulation E u o (fun u1 => ∃ n8, wp_X10_finishAll_8 E o post n8 u1 0 0)
set_option maxHeartbeats 4000000 in
set_option maxRecDepth 100000 in
theorem c_X10_finishAll (l : Launch) (G : va_G) (cy : Nat → ClassId) (L : Nat → Nat) (E : ms_En) (hE : ms_WT E) (u : ms_St) (o : Nat) (ho : ms_is E o 10) (post : Int32 → ms_St → Prop) (h : wp_X10_finishAll E u o post) : ms_MetI l ⟨"CensusWalk", "finishAll", "()I"⟩ (Cond.code ⟨"CensusWalk", "finishAll", "()I"⟩ prog_1_method_21_code 3 (some .int) :: lw_g) ({ frames := 7, cells := 0, slots := 0, locals := 165 } : Room) G cy L E [.ref (L o)] u post 0 0 := by
  refine ms_enterI (lv := [(0, .ref (L o))]) (by decide) (Nat.le_of_ble_eq_true rfl) rfl ?_
  intro p e s m args below meth c A C hr hlocks
  unfold wp_X10_finishAll at h
  refine a_aload_n C dX10_finishAll_0 rfl 0 rfl rfl ?_
  refine a_callVV C (c_X10_refreshSimulation l G cy L E hE u o ho _ h) ho rfl (by decide) kw_2_222 kw_2_224 kp_1 kw_1_1 kw_2_225 rfl rfl pd_X10_refreshSimulation ⟨(Nat.le_of_ble_eq_true rfl), (Nat.le_of_ble_eq_true rfl)⟩ dX10_finishAll_1 rfl (Nat.le_of_ble_eq_true rfl) ⟨(Nat.le_of_ble_eq_true rfl), (Nat.le_of_ble_eq_true rfl)⟩ rfl (fun u1 h => ?_)
  refine a_iconst (v := 0) C dX10_finishAll_4 (by decide) rfl ?_
  refine a_istore_n (lv' := [(0, .ref (L o)), (1, .int 0)]) C dX10_finishAll_5 rfl (by decide) [1, 0] rfl rfl ?_
  refine a_iconst (v := 0) C dX10_finishAll_6 (by decide) rfl ?_
  refine a_istore_n (lv' := [(0, .ref (L o)), (1, .int 0), (2, .int 0)]) C dX10_finishAll_7 rfl (by decide) [1, 2, 0] rfl rfl ?_
  obtain ⟨n9, h⟩ := h
  exact c_X10_finishAll_8 C hr hlocks hE ho  n9 u1 0 0  h

/-! CensusWalk.counted()I -/
theorem pd_X10_counted : (⟨"CensusWalk", "counted", "()I"⟩ : MethodName).cls = "CensusWalk" ∧ (⟨"CensusWalk", "counted", "()I"⟩ : MethodName).cls ≠ "java/lang/invoke/MethodHandle" ∧ (⟨"CensusWalk", "counted", "()I"⟩ : MethodName).cls ≠ "java/lang/invoke/VarHandle" ∧ (parseMethodDescriptor (⟨"CensusWalk", "counted", "()I"⟩ : MethodName).desc).map (fun d => d.parameters.length) = some 0 := by decide +kernel
def wp_X10_counted (E : ms_En) (u : ms_St) (o : Nat) (post : Int32 → ms_St → Prop) : Prop := wp_X10_refreshSimulation E u o (fun u1 => post (ms_I u1 (ms_at E o 9) 4) u1)
set_option maxHeartbeats 4000000 in
set_option maxRecDepth 100000 in
theorem c_X10_counted (l : Launch) (G : va_G) (cy : Nat → ClassId) (L : Nat → Nat) (E : ms_En) (hE : ms_WT E) (u : ms_St) (o : Nat) (ho : ms_is E o 10) (post : Int32 → ms_St → Prop) (h : wp_X10_counted E u o post) : ms_MetI l ⟨"CensusWalk", "counted", "()I"⟩ (Cond.code ⟨"CensusWalk", "counted", "()I"⟩ prog_1_method_22_code 1 (some .int) :: lw_g) ({ frames := 7, cells := 0, slots := 0, locals := 165 } : Room) G cy L E [.ref (L o)] u post 0 0 := by
  refine ms_enterI (lv := [(0, .ref (L o))]) (by decide) (Nat.le_of_ble_eq_true rfl) rfl ?_
  intro p e s m args below meth c A C hr hlocks
  unfold wp_X10_counted at h
  refine a_aload_n C dX10_counted_0 rfl 0 rfl rfl ?_
  refine a_callVV C (c_X10_refreshSimulation l G cy L E hE u o ho _ h) ho rfl (by decide) kw_2_222 kw_2_224 kp_1 kw_1_1 kw_2_225 rfl rfl pd_X10_refreshSimulation ⟨(Nat.le_of_ble_eq_true rfl), (Nat.le_of_ble_eq_true rfl)⟩ dX10_counted_1 rfl (Nat.le_of_ble_eq_true rfl) ⟨(Nat.le_of_ble_eq_true rfl), (Nat.le_of_ble_eq_true rfl)⟩ rfl (fun u1 h => ?_)
  refine a_aload_n C dX10_counted_4 rfl 0 rfl rfl ?_
  refine g_10_9 C hE dX10_counted_5 ho kw_2_159 rfl ?_
  have k5 : ms_is E (ms_at E o 9) 4 := ms_wt hE ho rfl (by decide)
  refine g_4_4 C dX10_counted_8 k5 kw_2_68 rfl ?_
  exact a_iret C dX10_counted_11 hr hlocks (Nat.le_of_ble_eq_true rfl) (Nat.le_of_ble_eq_true rfl) h

/-! CensusWalk.persons()I -/
theorem pd_X10_persons : (⟨"CensusWalk", "persons", "()I"⟩ : MethodName).cls = "CensusWalk" ∧ (⟨"CensusWalk", "persons", "()I"⟩ : MethodName).cls ≠ "java/lang/invoke/MethodHandle" ∧ (⟨"CensusWalk", "persons", "()I"⟩ : MethodName).cls ≠ "java/lang/invoke/VarHandle" ∧ (parseMethodDescriptor (⟨"CensusWalk", "persons", "()I"⟩ : MethodName).desc).map (fun d => d.parameters.length) = some 0 := by decide +kernel
def wp_X10_persons_51 (E : ms_En) (o : Nat) (post : Int32 → ms_St → Prop) (k8 : ms_St → Int32 → Int32 → Prop) (u : ms_St) (x1 : Int32) (x2 : Int32) : Prop := k8 u x1 (x2 + 1)
set_option maxHeartbeats 4000000 in
set_option maxRecDepth 100000 in
theorem c_X10_persons_51 {p : Program} {l : Launch} {e : Env} {s : State} {m : MethodId} {args : Array Value} {below : List Frame} {meth : Method} {c : Code} {G : va_G} {cy : Nat → ClassId} {A : Nat → Prop} {L : Nat → Nat} {E : ms_En} (C : ms_Cx p m c cX10_persons 3 s args (Cond.code ⟨"CensusWalk", "persons", "()I"⟩ prog_1_method_23_code 3 (some .int)) "CensusWalk" G cy A) (hr : meth.sig.returnType = (some .int)) (hlocks : meth.locks = false) (hE : ms_WT E) {o : Nat} {post : Int32 → ms_St → Prop} {k8 : ms_St → Int32 → Int32 → Prop} (ho : ms_is E o 10) (hk8 : ∀ (u : ms_St) (x1 : Int32) (x2 : Int32), k8 u x1 x2 → ms_At p l e ({ frames := 7, cells := 0, slots := 0, locals := 165 } : Room) s m args below meth c 3 G cy A L 0 0 (ms_QI below args s G cy L E A post 0 0) E u 8 [(0, .ref (L o)), (1, .int x1), (2, .int x2)] []) (u : ms_St) (x1 : Int32) (x2 : Int32)  (h : wp_X10_persons_51 E o post k8 u x1 x2) : ms_At p l e ({ frames := 7, cells := 0, slots := 0, locals := 165 } : Room) s m args below meth c 3 G cy A L 0 0 (ms_QI below args s G cy L E A post 0 0) E u 51 [(0, .ref (L o)), (1, .int x1), (2, .int x2)] [] := by
  unfold wp_X10_persons_51 at h
  refine a_iinc (lv' := [(0, .ref (L o)), (1, .int x1), (2, .int (x2 + 1))]) (v := (x2 + 1)) C dX10_persons_51 2 rfl (congrArg (fun z => x2 + z) (by decide)) (by decide) [1, 2, 0] rfl rfl ?_
  refine a_goto (tgt := 8) C dX10_persons_54 (by decide) ?_
  exact hk8 u x1 (x2 + 1)  h
def wp_X10_persons_8 (E : ms_En) (o : Nat) (post : Int32 → ms_St → Prop)  : Nat → ms_St → Int32 → Int32 → Prop
  | 0 => fun _ _ _ => False
  | n + 1 => fun u x1 x2 => ((ms_I u (ms_at E (ms_at E o 3) 4) 0) ≤ x2 → post x1 u) ∧ (¬ (ms_I u (ms_at E (ms_at E o 3) 4) 0) ≤ x2 → wp_X10_contains E u (ms_I u (ms_at E o 9) 4) x2 (fun r30 u30 => (r30 = 0 → wp_X10_persons_51 E o post (wp_X10_persons_8 E o post n) u30 x1 x2) ∧ (¬ r30 = 0 → vp_in x2 16 ∧ (∀ v50 : Int32, v50 = (x1 + (ms_I u30 (ms_at E (ms_at E (ms_at E o 3) 4) 4) (Int32.toNatClampNeg x2))) → (wp_X10_persons_51 E o post (wp_X10_persons_8 E o post n) u30 v50 x2)))))
set_option maxHeartbeats 4000000 in
set_option maxRecDepth 100000 in
theorem c_X10_persons_8 {p : Program} {l : Launch} {e : Env} {s : State} {m : MethodId} {args : Array Value} {below : List Frame} {meth : Method} {c : Code} {G : va_G} {cy : Nat → ClassId} {A : Nat → Prop} {L : Nat → Nat} {E : ms_En} (C : ms_Cx p m c cX10_persons 3 s args (Cond.code ⟨"CensusWalk", "persons", "()I"⟩ prog_1_method_23_code 3 (some .int)) "CensusWalk" G cy A) (hr : meth.sig.returnType = (some .int)) (hlocks : meth.locks = false) (hE : ms_WT E) {o : Nat} {post : Int32 → ms_St → Prop}  (ho : ms_is E o 10)  : ∀ (n : Nat) (u : ms_St) (x1 : Int32) (x2 : Int32), wp_X10_persons_8 E o post n u x1 x2 → ms_At p l e ({ frames := 7, cells := 0, slots := 0, locals := 165 } : Room) s m args below meth c 3 G cy A L 0 0 (ms_QI below args s G cy L E A post 0 0) E u 8 [(0, .ref (L o)), (1, .int x1), (2, .int x2)] [] := by
  intro n
  induction n with
  | zero =>
    intro u x1 x2  h
    exact absurd h id
  | succ n ih =>
    intro u x1 x2  h
    unfold wp_X10_persons_8 at h
    refine a_iload_n C dX10_persons_8 rfl 2 rfl rfl ?_
    refine a_aload_n C dX10_persons_9 rfl 0 rfl rfl ?_
    refine g_10_3 C hE dX10_persons_10 ho kw_2_153 rfl ?_
    have k10 : ms_is E (ms_at E o 3) 7 := ms_wt hE ho rfl (by decide)
    refine g_7_4 C hE dX10_persons_13 k10 kw_1_181 rfl ?_
    have k13 : ms_is E (ms_at E (ms_at E o 3) 4) 0 := ms_wt hE k10 rfl (by decide)
    refine g_0_0 C dX10_persons_16 k13 kw_1_84 rfl ?_
    refine a_icmp_ge (tgt := 57) C dX10_persons_19 (by decide) rfl (fun hc => ?_) (fun hc => ?_)
    · replace h := h.1 hc
      refine a_iload_n C dX10_persons_57 rfl 1 rfl rfl ?_
      exact a_iret C dX10_persons_58 hr hlocks (Nat.le_of_ble_eq_true rfl) (Nat.le_of_ble_eq_true rfl) h
    · replace h := h.2 hc
      refine a_aload_n C dX10_persons_22 rfl 0 rfl rfl ?_
      refine g_10_9 C hE dX10_persons_23 ho kw_2_159 rfl ?_
      have k23 : ms_is E (ms_at E o 9) 4 := ms_wt hE ho rfl (by decide)
      refine g_4_4 C dX10_persons_26 k23 kw_2_68 rfl ?_
      refine a_iload_n C dX10_persons_29 rfl 2 rfl rfl ?_
      refine a_callSI C (c_X10_contains l G cy L E hE u (ms_I u (ms_at E o 9) 4) x2  _ h) kw_3_93 kw_3_73 kw_1_1 kw_3_74 rfl rfl pd_X10_contains ⟨(Nat.le_of_ble_eq_true rfl), (Nat.le_of_ble_eq_true rfl)⟩ dX10_persons_30 rfl (Nat.le_of_ble_eq_true rfl) ⟨(Nat.le_of_ble_eq_true rfl), (Nat.le_of_ble_eq_true rfl)⟩ rfl (fun r30 u30 h => ?_)
      refine a_if_eq (tgt := 51) C dX10_persons_33 (by decide) rfl (fun hc => ?_) (fun hc => ?_)
      · replace h := h.1 hc
        exact c_X10_persons_51 C hr hlocks hE ho ih u30 x1 x2  h
      · replace h := h.2 hc
        refine a_iload_n C dX10_persons_36 rfl 1 rfl rfl ?_
        refine a_aload_n C dX10_persons_37 rfl 0 rfl rfl ?_
        refine g_10_3 C hE dX10_persons_38 ho kw_2_153 rfl ?_
        refine g_7_4 C hE dX10_persons_41 k10 kw_1_181 rfl ?_
        refine g_0_4 C hE dX10_persons_44 k13 kw_1_99 rfl ?_
        have k44 : ms_is E (ms_at E (ms_at E (ms_at E o 3) 4) 4) 13 := ms_wt hE k13 rfl (by decide)
        have n44 : ms_N E (ms_at E (ms_at E (ms_at E o 3) 4) 4) = 16 := ms_wl hE k13 (by decide) (by decide) rfl
        refine a_iload_n C dX10_persons_47 rfl 2 rfl rfl ?_
        obtain ⟨q48, h⟩ := h
        refine a_iald C dX10_persons_48 k44 n44 q48 rfl ?_
        refine a_iadd C dX10_persons_49 rfl ?_
        refine a_nmI (fun v50 e50 => ?_)
        replace h := h v50 e50
        refine a_istore_n (lv' := [(0, .ref (L o)), (1, .int v50), (2, .int x2)]) C dX10_persons_50 rfl (by decide) [1, 0, 2] rfl rfl ?_
        exact c_X10_persons_51 C hr hlocks hE ho ih u30 v50 x2  h
def wp_X10_persons (E : ms_En) (u : ms_St) (o : Nat) (post : Int32 → ms_St → Prop) : Prop := wp_X10_refreshSimulation E u o (fun u1 => ∃ n8, wp_X10_persons_8 E o post n8 u1 0 0)
set_option maxHeartbeats 4000000 in
set_option maxRecDepth 100000 in
theorem c_X10_persons (l : Launch) (G : va_G) (cy : Nat → ClassId) (L : Nat → Nat) (E : ms_En) (hE : ms_WT E) (u : ms_St) (o : Nat) (ho : ms_is E o 10) (post : Int32 → ms_St → Prop) (h : wp_X10_persons E u o post) : ms_MetI l ⟨"CensusWalk", "persons", "()I"⟩ (Cond.code ⟨"CensusWalk", "persons", "()I"⟩ prog_1_method_23_code 3 (some .int) :: lw_g) ({ frames := 7, cells := 0, slots := 0, locals := 165 } : Room) G cy L E [.ref (L o)] u post 0 0 := by
  refine ms_enterI (lv := [(0, .ref (L o))]) (by decide) (Nat.le_of_ble_eq_true rfl) rfl ?_
  intro p e s m args below meth c A C hr hlocks
  unfold wp_X10_persons at h
  refine a_aload_n C dX10_persons_0 rfl 0 rfl rfl ?_
  refine a_callVV C (c_X10_refreshSimulation l G cy L E hE u o ho _ h) ho rfl (by decide) kw_2_222 kw_2_224 kp_1 kw_1_1 kw_2_225 rfl rfl pd_X10_refreshSimulation ⟨(Nat.le_of_ble_eq_true rfl), (Nat.le_of_ble_eq_true rfl)⟩ dX10_persons_1 rfl (Nat.le_of_ble_eq_true rfl) ⟨(Nat.le_of_ble_eq_true rfl), (Nat.le_of_ble_eq_true rfl)⟩ rfl (fun u1 h => ?_)
  refine a_iconst (v := 0) C dX10_persons_4 (by decide) rfl ?_
  refine a_istore_n (lv' := [(0, .ref (L o)), (1, .int 0)]) C dX10_persons_5 rfl (by decide) [1, 0] rfl rfl ?_
  refine a_iconst (v := 0) C dX10_persons_6 (by decide) rfl ?_
  refine a_istore_n (lv' := [(0, .ref (L o)), (1, .int 0), (2, .int 0)]) C dX10_persons_7 rfl (by decide) [1, 2, 0] rfl rfl ?_
  obtain ⟨n9, h⟩ := h
  exact c_X10_persons_8 C hr hlocks hE ho  n9 u1 0 0  h

/-! CensusWalk.calls(I)I -/
theorem pd_X10_calls : (⟨"CensusWalk", "calls", "(I)I"⟩ : MethodName).cls = "CensusWalk" ∧ (⟨"CensusWalk", "calls", "(I)I"⟩ : MethodName).cls ≠ "java/lang/invoke/MethodHandle" ∧ (⟨"CensusWalk", "calls", "(I)I"⟩ : MethodName).cls ≠ "java/lang/invoke/VarHandle" ∧ (parseMethodDescriptor (⟨"CensusWalk", "calls", "(I)I"⟩ : MethodName).desc).map (fun d => d.parameters.length) = some 1 := by decide +kernel
def wp_X10_calls (E : ms_En) (u : ms_St) (o : Nat) (a1 : Int32) (post : Int32 → ms_St → Prop) (px : String → ms_St → Prop) : Prop := wp_X10_checkHouse E u o a1 (fun u2 => wp_X10_refreshSimulation E u2 o (fun u6 => vp_in a1 16 ∧ (post (ms_I u6 (ms_at E (ms_at E o 9) 3) (Int32.toNatClampNeg a1)) u6))) px
set_option maxHeartbeats 4000000 in
set_option maxRecDepth 100000 in
theorem c_X10_calls (l : Launch) (G : va_G) (cy : Nat → ClassId) (L : Nat → Nat) (E : ms_En) (hE : ms_WT E) (hl9 : l.stackTraces = false) (u : ms_St) (o : Nat) (a1 : Int32) (ho : ms_is E o 10) (post : Int32 → ms_St → Prop) (px : String → ms_St → Prop) (h : wp_X10_calls E u o a1 post px) : ms_XI l ⟨"CensusWalk", "calls", "(I)I"⟩ (Cond.code ⟨"CensusWalk", "calls", "(I)I"⟩ prog_1_method_24_code 2 (some .int) :: lw_g) ({ frames := 7, cells := 1, slots := 6, locals := 165 } : Room) G cy L E [.ref (L o), .int a1] u post px 1 6 := by
  refine ms_enterXI (lv := [(0, .ref (L o)), (1, .int a1)]) (by decide) (Nat.le_of_ble_eq_true rfl) rfl ?_
  intro p e s m args below meth c A C hr hlocks hnx
  unfold wp_X10_calls at h
  refine a_aload_n C dX10_calls_0 rfl 0 rfl rfl ?_
  refine a_iload_n C dX10_calls_1 rfl 1 rfl rfl ?_
  refine a_xcallVI C hnx hlocks (c_X10_checkHouse l G cy L E hE hl9 u o a1 ho _ _ h) ho rfl (by decide) kw_4_152 kw_4_154 kp_25 kw_1_1 kw_4_155 rfl rfl pd_X10_checkHouse ⟨(Nat.le_of_ble_eq_true rfl), (Nat.le_of_ble_eq_true rfl)⟩ dX10_calls_2 rfl (Nat.le_of_ble_eq_true rfl) ⟨(Nat.le_of_ble_eq_true rfl), (Nat.le_of_ble_eq_true rfl)⟩ ⟨(Nat.le_of_ble_eq_true rfl), (Nat.le_of_ble_eq_true rfl)⟩ rfl (fun u2 h => ?_)
  refine a_aload_n C dX10_calls_5 rfl 0 rfl rfl ?_
  refine a_callVV C (c_X10_refreshSimulation l G cy L E hE u2 o ho _ h) ho rfl (by decide) kw_2_222 kw_2_224 kp_1 kw_1_1 kw_2_225 rfl rfl pd_X10_refreshSimulation ⟨(Nat.le_of_ble_eq_true rfl), (Nat.le_of_ble_eq_true rfl)⟩ dX10_calls_6 rfl (Nat.le_of_ble_eq_true rfl) ⟨(Nat.le_of_ble_eq_true rfl), (Nat.le_of_ble_eq_true rfl)⟩ rfl (fun u6 h => ?_)
  refine a_aload_n C dX10_calls_9 rfl 0 rfl rfl ?_
  refine g_10_9 C hE dX10_calls_10 ho kw_2_159 rfl ?_
  have k10 : ms_is E (ms_at E o 9) 4 := ms_wt hE ho rfl (by decide)
  refine g_4_3 C hE dX10_calls_13 k10 kw_2_66 rfl ?_
  have k13 : ms_is E (ms_at E (ms_at E o 9) 3) 13 := ms_wt hE k10 rfl (by decide)
  have n13 : ms_N E (ms_at E (ms_at E o 9) 3) = 16 := ms_wl hE k10 (by decide) (by decide) rfl
  refine a_iload_n C dX10_calls_16 rfl 1 rfl rfl ?_
  obtain ⟨q17, h⟩ := h
  refine a_iald C dX10_calls_17 k13 n13 q17 rfl ?_
  refine a_retXI ?_
  exact a_iret C dX10_calls_18 hr hlocks (Nat.le_of_ble_eq_true rfl) (Nat.le_of_ble_eq_true rfl) h

/-! CensusWalk.checkSet(I)V -/
theorem pd_X10_checkSet : (⟨"CensusWalk", "checkSet", "(I)V"⟩ : MethodName).cls = "CensusWalk" ∧ (⟨"CensusWalk", "checkSet", "(I)V"⟩ : MethodName).cls ≠ "java/lang/invoke/MethodHandle" ∧ (⟨"CensusWalk", "checkSet", "(I)V"⟩ : MethodName).cls ≠ "java/lang/invoke/VarHandle" ∧ (parseMethodDescriptor (⟨"CensusWalk", "checkSet", "(I)V"⟩ : MethodName).desc).map (fun d => d.parameters.length) = some 1 := by decide +kernel
def wp_X10_checkSet_24 (E : ms_En) (o : Nat) (a1 : Int32) (post : ms_St → Prop) (px : String → ms_St → Prop)  (u : ms_St)  : Prop := px "java/lang/IllegalArgumentException" u
set_option maxHeartbeats 4000000 in
set_option maxRecDepth 100000 in
theorem c_X10_checkSet_24 {p : Program} {l : Launch} {e : Env} {s : State} {m : MethodId} {args : Array Value} {below : List Frame} {meth : Method} {c : Code} {G : va_G} {cy : Nat → ClassId} {A : Nat → Prop} {L : Nat → Nat} {E : ms_En} (C : ms_Cx p m c cX10_checkSet 2 s args (Cond.code ⟨"CensusWalk", "checkSet", "(I)V"⟩ prog_1_method_45_code 2 none) "CensusWalk" G cy A) (hr : meth.sig.returnType = none) (hlocks : meth.locks = false) (hnx : ∀ x ∈ c.exceptionTable.toList, False) (hl9 : l.stackTraces = false) (hE : ms_WT E) {o : Nat} {a1 : Int32} {post : ms_St → Prop} {px : String → ms_St → Prop}  (ho : ms_is E o 10)  (u : ms_St)   (h : wp_X10_checkSet_24 E o a1 post px u ) : ms_At p l e ({ frames := 6, cells := 1, slots := 6, locals := 120 } : Room) s m args below meth c 2 G cy A L 0 0 (ms_QXV below args s G cy L E A post px 1 6) E u 24 [] [] := by
  unfold wp_X10_checkSet_24 at h
  exact a_throwWV (j := 18) C hl9 hnx hlocks (by decide +kernel) rfl rfl kw_3_137 kw_1_16 (x_80 C) (by decide +kernel) dX10_checkSet_24 dX10_checkSet_27 dX10_checkSet_28 dX10_checkSet_31 dX10_checkSet_34 (Nat.le_of_ble_eq_true rfl) (Nat.le_of_ble_eq_true rfl) (Nat.le_of_ble_eq_true rfl) (Nat.le_of_ble_eq_true rfl) (Nat.le_of_ble_eq_true rfl) (Nat.le_of_ble_eq_true rfl) h
def wp_X10_checkSet (E : ms_En) (u : ms_St) (o : Nat) (a1 : Int32) (post : ms_St → Prop) (px : String → ms_St → Prop) : Prop := (((Int32.toUInt32 a1 >>> (Int32.toUInt32 (ms_I u (ms_at E (ms_at E o 3) 4) 0) &&& Int32.toUInt32 31)).toInt32) = 0 → wp_J6_bitCount_0f7a4 E u a1 (fun r16 u16 => (r16 ≤ 8 → post u16) ∧ (¬ r16 ≤ 8 → wp_X10_checkSet_24 E o a1 post px u16))) ∧ (¬ ((Int32.toUInt32 a1 >>> (Int32.toUInt32 (ms_I u (ms_at E (ms_at E o 3) 4) 0) &&& Int32.toUInt32 31)).toInt32) = 0 → wp_X10_checkSet_24 E o a1 post px u)
set_option maxHeartbeats 4000000 in
set_option maxRecDepth 100000 in
theorem c_X10_checkSet (l : Launch) (G : va_G) (cy : Nat → ClassId) (L : Nat → Nat) (E : ms_En) (hE : ms_WT E) (hl9 : l.stackTraces = false) (u : ms_St) (o : Nat) (a1 : Int32) (ho : ms_is E o 10) (post : ms_St → Prop) (px : String → ms_St → Prop) (h : wp_X10_checkSet E u o a1 post px) : ms_XV l ⟨"CensusWalk", "checkSet", "(I)V"⟩ (Cond.code ⟨"CensusWalk", "checkSet", "(I)V"⟩ prog_1_method_45_code 2 none :: lw_g) ({ frames := 6, cells := 1, slots := 6, locals := 120 } : Room) G cy L E [.ref (L o), .int a1] u post px 1 6 := by
  refine ms_enterXV (lv := [(0, .ref (L o)), (1, .int a1)]) (by decide) (Nat.le_of_ble_eq_true rfl) rfl ?_
  intro p e s m args below meth c A C hr hlocks hnx
  unfold wp_X10_checkSet at h
  refine a_iload_n C dX10_checkSet_0 rfl 1 rfl rfl ?_
  refine a_aload_n C dX10_checkSet_1 rfl 0 rfl rfl ?_
  refine g_10_3 C hE dX10_checkSet_2 ho kw_2_153 rfl ?_
  have k2 : ms_is E (ms_at E o 3) 7 := ms_wt hE ho rfl (by decide)
  refine g_7_4 C hE dX10_checkSet_5 k2 kw_1_181 rfl ?_
  have k5 : ms_is E (ms_at E (ms_at E o 3) 4) 0 := ms_wt hE k2 rfl (by decide)
  refine g_0_0 C dX10_checkSet_8 k5 kw_1_84 rfl ?_
  refine a_iushr C dX10_checkSet_11 rfl ?_
  refine a_if_ne (tgt := 24) C dX10_checkSet_12 (by decide) rfl (fun hc => ?_) (fun hc => ?_)
  · replace h := h.2 hc
    refine a_wid (k := 0) (n := 0) (Nat.le_of_ble_eq_true rfl) (Nat.le_of_ble_eq_true rfl) ?_
    refine a_sub (lv' := []) [] rfl ?_
    exact c_X10_checkSet_24 C hr hlocks hnx hl9 hE ho  u  h
  · replace h := h.1 hc
    refine a_iload_n C dX10_checkSet_15 rfl 1 rfl rfl ?_
    refine a_callSI C (c_J6_bitCount_0f7a4 l G cy L E hE u a1  _ h) kw_5_52 kw_5_53 kw_1_25 kw_5_54 rfl rfl pd_J6_bitCount_0f7a4 ⟨(Nat.le_of_ble_eq_true rfl), (Nat.le_of_ble_eq_true rfl)⟩ dX10_checkSet_16 rfl (Nat.le_of_ble_eq_true rfl) ⟨(Nat.le_of_ble_eq_true rfl), (Nat.le_of_ble_eq_true rfl)⟩ rfl (fun r16 u16 h => ?_)
    refine a_bipush (v := 8) C dX10_checkSet_19 (by decide) rfl ?_
    refine a_icmp_le (tgt := 35) C dX10_checkSet_21 (by decide) rfl (fun hc => ?_) (fun hc => ?_)
    · replace h := h.1 hc
      refine a_retXV ?_
      exact a_vret C dX10_checkSet_35 hr hlocks (Nat.le_of_ble_eq_true rfl) (Nat.le_of_ble_eq_true rfl) h
    · replace h := h.2 hc
      refine a_wid (k := 0) (n := 0) (Nat.le_of_ble_eq_true rfl) (Nat.le_of_ble_eq_true rfl) ?_
      refine a_sub (lv' := []) [] rfl ?_
      exact c_X10_checkSet_24 C hr hlocks hnx hl9 hE ho  u16  h

/-! CensusWalk.soonest(II)I -/
theorem pd_X10_soonest : (⟨"CensusWalk", "soonest", "(II)I"⟩ : MethodName).cls = "CensusWalk" ∧ (⟨"CensusWalk", "soonest", "(II)I"⟩ : MethodName).cls ≠ "java/lang/invoke/MethodHandle" ∧ (⟨"CensusWalk", "soonest", "(II)I"⟩ : MethodName).cls ≠ "java/lang/invoke/VarHandle" ∧ (parseMethodDescriptor (⟨"CensusWalk", "soonest", "(II)I"⟩ : MethodName).desc).map (fun d => d.parameters.length) = some 2 := by decide +kernel
def wp_X10_soonest (E : ms_En) (u : ms_St) (o : Nat) (a1 : Int32) (a2 : Int32) (post : Int32 → ms_St → Prop) (px : String → ms_St → Prop) : Prop := wp_X10_checkWalker E u o a1 (fun u2 => wp_X10_checkSet E u2 o a2 (fun u7 => wp_X10_refreshRoutes E u7 o (fun u11 => wp_X2_soonestEnd E u11 (ms_at E o 10) (ms_at E o 3) (ms_at E o 8) a1 a2 (fun r28 u28 => post r28 u28))) px) px
set_option maxHeartbeats 4000000 in
set_option maxRecDepth 100000 in
theorem c_X10_soonest (l : Launch) (G : va_G) (cy : Nat → ClassId) (L : Nat → Nat) (E : ms_En) (hE : ms_WT E) (hl9 : l.stackTraces = false) (u : ms_St) (o : Nat) (a1 : Int32) (a2 : Int32) (ho : ms_is E o 10) (post : Int32 → ms_St → Prop) (px : String → ms_St → Prop) (h : wp_X10_soonest E u o a1 a2 post px) : ms_XI l ⟨"CensusWalk", "soonest", "(II)I"⟩ (Cond.code ⟨"CensusWalk", "soonest", "(II)I"⟩ prog_1_method_25_code 3 (some .int) :: lw_g) ({ frames := 7, cells := 2, slots := 12, locals := 146 } : Room) G cy L E [.ref (L o), .int a1, .int a2] u post px 2 12 := by
  refine ms_enterXI (lv := [(0, .ref (L o)), (1, .int a1), (2, .int a2)]) (by decide) (Nat.le_of_ble_eq_true rfl) rfl ?_
  intro p e s m args below meth c A C hr hlocks hnx
  unfold wp_X10_soonest at h
  refine a_aload_n C dX10_soonest_0 rfl 0 rfl rfl ?_
  refine a_iload_n C dX10_soonest_1 rfl 1 rfl rfl ?_
  refine a_xcallVI C hnx hlocks (c_X10_checkWalker l G cy L E hE hl9 u o a1 ho _ _ h) ho rfl (by decide) kw_4_235 kw_4_237 kp_27 kw_1_1 kw_4_238 rfl rfl pd_X10_checkWalker ⟨(Nat.le_of_ble_eq_true rfl), (Nat.le_of_ble_eq_true rfl)⟩ dX10_soonest_2 rfl (Nat.le_of_ble_eq_true rfl) ⟨(Nat.le_of_ble_eq_true rfl), (Nat.le_of_ble_eq_true rfl)⟩ ⟨(Nat.le_of_ble_eq_true rfl), (Nat.le_of_ble_eq_true rfl)⟩ rfl (fun u2 h => ?_)
  refine a_aload_n C dX10_soonest_5 rfl 0 rfl rfl ?_
  refine a_iload_n C dX10_soonest_6 rfl 2 rfl rfl ?_
  refine a_xcallVI C hnx hlocks (c_X10_checkSet l G cy L E hE hl9 u2 o a2 ho _ _ h) ho rfl (by decide) kw_5_48 kw_5_50 kp_29 kw_1_1 kw_5_51 rfl rfl pd_X10_checkSet ⟨(Nat.le_of_ble_eq_true rfl), (Nat.le_of_ble_eq_true rfl)⟩ dX10_soonest_7 rfl (Nat.le_of_ble_eq_true rfl) ⟨(Nat.le_of_ble_eq_true rfl), (Nat.le_of_ble_eq_true rfl)⟩ ⟨(Nat.le_of_ble_eq_true rfl), (Nat.le_of_ble_eq_true rfl)⟩ rfl (fun u7 h => ?_)
  refine a_aload_n C dX10_soonest_10 rfl 0 rfl rfl ?_
  refine a_callVV C (c_X10_refreshRoutes l G cy L E hE u7 o ho _ h) ho rfl (by decide) kw_2_226 kw_2_228 kp_2 kw_1_1 kw_2_229 rfl rfl pd_X10_refreshRoutes ⟨(Nat.le_of_ble_eq_true rfl), (Nat.le_of_ble_eq_true rfl)⟩ dX10_soonest_11 rfl (Nat.le_of_ble_eq_true rfl) ⟨(Nat.le_of_ble_eq_true rfl), (Nat.le_of_ble_eq_true rfl)⟩ rfl (fun u11 h => ?_)
  refine a_aload_n C dX10_soonest_14 rfl 0 rfl rfl ?_
  refine g_10_10 C hE dX10_soonest_15 ho kw_2_160 rfl ?_
  have k15 : ms_is E (ms_at E o 10) 2 := ms_wt hE ho rfl (by decide)
  refine a_aload_n C dX10_soonest_18 rfl 0 rfl rfl ?_
  refine g_10_3 C hE dX10_soonest_19 ho kw_2_153 rfl ?_
  have k19 : ms_is E (ms_at E o 3) 7 := ms_wt hE ho rfl (by decide)
  refine a_aload_n C dX10_soonest_22 rfl 0 rfl rfl ?_
  refine g_10_8 C hE dX10_soonest_23 ho kw_2_158 rfl ?_
  have k23 : ms_is E (ms_at E o 8) 1 := ms_wt hE ho rfl (by decide)
  refine a_iload_n C dX10_soonest_26 rfl 1 rfl rfl ?_
  refine a_iload_n C dX10_soonest_27 rfl 2 rfl rfl ?_
  refine a_callVI C (c_X2_soonestEnd l G cy L E hE u11 (ms_at E o 10) (ms_at E o 3) (ms_at E o 8) a1 a2 k15 k19 k23 _ h) k15 rfl (by decide) kw_5_59 kw_5_60 kw_5_61 kw_1_11 kw_5_62 rfl rfl pd_X2_soonestEnd ⟨(Nat.le_of_ble_eq_true rfl), (Nat.le_of_ble_eq_true rfl)⟩ dX10_soonest_28 rfl (Nat.le_of_ble_eq_true rfl) ⟨(Nat.le_of_ble_eq_true rfl), (Nat.le_of_ble_eq_true rfl)⟩ rfl (fun r28 u28 h => ?_)
  refine a_retXI ?_
  exact a_iret C dX10_soonest_31 hr hlocks (Nat.le_of_ble_eq_true rfl) (Nat.le_of_ble_eq_true rfl) h

/-! CensusWalk.soonestOrder(III)I -/
theorem pd_X10_soonestOrder : (⟨"CensusWalk", "soonestOrder", "(III)I"⟩ : MethodName).cls = "CensusWalk" ∧ (⟨"CensusWalk", "soonestOrder", "(III)I"⟩ : MethodName).cls ≠ "java/lang/invoke/MethodHandle" ∧ (⟨"CensusWalk", "soonestOrder", "(III)I"⟩ : MethodName).cls ≠ "java/lang/invoke/VarHandle" ∧ (parseMethodDescriptor (⟨"CensusWalk", "soonestOrder", "(III)I"⟩ : MethodName).desc).map (fun d => d.parameters.length) = some 3 := by decide +kernel
def wp_X10_soonestOrder_64 (E : ms_En) (o : Nat) (a1 : Int32) (a2 : Int32) (a3 : Int32) (post : Int32 → ms_St → Prop) (px : String → ms_St → Prop)  (u : ms_St)  : Prop := post (-1) u
set_option maxHeartbeats 4000000 in
set_option maxRecDepth 100000 in
theorem c_X10_soonestOrder_64 {p : Program} {l : Launch} {e : Env} {s : State} {m : MethodId} {args : Array Value} {below : List Frame} {meth : Method} {c : Code} {G : va_G} {cy : Nat → ClassId} {A : Nat → Prop} {L : Nat → Nat} {E : ms_En} (C : ms_Cx p m c cX10_soonestOrder 5 s args (Cond.code ⟨"CensusWalk", "soonestOrder", "(III)I"⟩ prog_1_method_26_code 5 (some .int)) "CensusWalk" G cy A) (hr : meth.sig.returnType = (some .int)) (hlocks : meth.locks = false) (hnx : ∀ x ∈ c.exceptionTable.toList, False) (hl9 : l.stackTraces = false) (hE : ms_WT E) {o : Nat} {a1 : Int32} {a2 : Int32} {a3 : Int32} {post : Int32 → ms_St → Prop} {px : String → ms_St → Prop}  (ho : ms_is E o 10)  (u : ms_St)   (h : wp_X10_soonestOrder_64 E o a1 a2 a3 post px u ) : ms_At p l e ({ frames := 7, cells := 3, slots := 18, locals := 146 } : Room) s m args below meth c 5 G cy A L 2 12 (ms_QXI below args s G cy L E A post px 3 18) E u 64 [] [] := by
  unfold wp_X10_soonestOrder_64 at h
  refine a_iconst (v := (-1)) C dX10_soonestOrder_64 (by decide) rfl ?_
  refine a_retXI ?_
  exact a_iret C dX10_soonestOrder_65 hr hlocks (Nat.le_of_ble_eq_true rfl) (Nat.le_of_ble_eq_true rfl) h
def wp_X10_soonestOrder (E : ms_En) (u : ms_St) (o : Nat) (a1 : Int32) (a2 : Int32) (a3 : Int32) (post : Int32 → ms_St → Prop) (px : String → ms_St → Prop) : Prop := wp_X10_checkWalker E u o a1 (fun u2 => wp_X10_checkSet E u2 o a2 (fun u7 => (0 ≤ a3 → wp_X10_refreshRoutes E u7 o (fun u25 => wp_X2_soonestEnd E u25 (ms_at E o 10) (ms_at E o 3) (ms_at E o 8) a1 a2 (fun r42 u42 => (r42 = (-1) → wp_X10_soonestOrder_64 E o a1 a2 a3 post px u42) ∧ (¬ r42 = (-1) → (a3 < (ms_I u42 (ms_at E o 10) 0) → wp_X2_findOrder E u42 (ms_at E o 10) r42 (fun u72 => vp_in a3 8 ∧ (post (ms_I u72 (ms_at E (ms_at E o 10) 1) (Int32.toNatClampNeg a3)) u72))) ∧ (¬ a3 < (ms_I u42 (ms_at E o 10) 0) → wp_X10_soonestOrder_64 E o a1 a2 a3 post px u42))))) ∧ (¬ 0 ≤ a3 → px "java/lang/IllegalArgumentException" u7)) px) px
set_option maxHeartbeats 4000000 in
set_option maxRecDepth 100000 in
theorem c_X10_soonestOrder (l : Launch) (G : va_G) (cy : Nat → ClassId) (L : Nat → Nat) (E : ms_En) (hE : ms_WT E) (hl9 : l.stackTraces = false) (u : ms_St) (o : Nat) (a1 : Int32) (a2 : Int32) (a3 : Int32) (ho : ms_is E o 10) (post : Int32 → ms_St → Prop) (px : String → ms_St → Prop) (h : wp_X10_soonestOrder E u o a1 a2 a3 post px) : ms_XI l ⟨"CensusWalk", "soonestOrder", "(III)I"⟩ (Cond.code ⟨"CensusWalk", "soonestOrder", "(III)I"⟩ prog_1_method_26_code 5 (some .int) :: lw_g) ({ frames := 7, cells := 3, slots := 18, locals := 146 } : Room) G cy L E [.ref (L o), .int a1, .int a2, .int a3] u post px 3 18 := by
  refine ms_enterXI (lv := [(0, .ref (L o)), (1, .int a1), (2, .int a2), (3, .int a3)]) (by decide) (Nat.le_of_ble_eq_true rfl) rfl ?_
  intro p e s m args below meth c A C hr hlocks hnx
  unfold wp_X10_soonestOrder at h
  refine a_aload_n C dX10_soonestOrder_0 rfl 0 rfl rfl ?_
  refine a_iload_n C dX10_soonestOrder_1 rfl 1 rfl rfl ?_
  refine a_xcallVI C hnx hlocks (c_X10_checkWalker l G cy L E hE hl9 u o a1 ho _ _ h) ho rfl (by decide) kw_4_235 kw_4_237 kp_27 kw_1_1 kw_4_238 rfl rfl pd_X10_checkWalker ⟨(Nat.le_of_ble_eq_true rfl), (Nat.le_of_ble_eq_true rfl)⟩ dX10_soonestOrder_2 rfl (Nat.le_of_ble_eq_true rfl) ⟨(Nat.le_of_ble_eq_true rfl), (Nat.le_of_ble_eq_true rfl)⟩ ⟨(Nat.le_of_ble_eq_true rfl), (Nat.le_of_ble_eq_true rfl)⟩ rfl (fun u2 h => ?_)
  refine a_aload_n C dX10_soonestOrder_5 rfl 0 rfl rfl ?_
  refine a_iload_n C dX10_soonestOrder_6 rfl 2 rfl rfl ?_
  refine a_xcallVI C hnx hlocks (c_X10_checkSet l G cy L E hE hl9 u2 o a2 ho _ _ h) ho rfl (by decide) kw_5_48 kw_5_50 kp_29 kw_1_1 kw_5_51 rfl rfl pd_X10_checkSet ⟨(Nat.le_of_ble_eq_true rfl), (Nat.le_of_ble_eq_true rfl)⟩ dX10_soonestOrder_7 rfl (Nat.le_of_ble_eq_true rfl) ⟨(Nat.le_of_ble_eq_true rfl), (Nat.le_of_ble_eq_true rfl)⟩ ⟨(Nat.le_of_ble_eq_true rfl), (Nat.le_of_ble_eq_true rfl)⟩ rfl (fun u7 h => ?_)
  refine a_iload_n C dX10_soonestOrder_10 rfl 3 rfl rfl ?_
  refine a_if_ge (tgt := 24) C dX10_soonestOrder_11 (by decide) rfl (fun hc => ?_) (fun hc => ?_)
  · replace h := h.1 hc
    refine a_aload_n C dX10_soonestOrder_24 rfl 0 rfl rfl ?_
    refine a_callVV C (c_X10_refreshRoutes l G cy L E hE u7 o ho _ h) ho rfl (by decide) kw_2_226 kw_2_228 kp_2 kw_1_1 kw_2_229 rfl rfl pd_X10_refreshRoutes ⟨(Nat.le_of_ble_eq_true rfl), (Nat.le_of_ble_eq_true rfl)⟩ dX10_soonestOrder_25 rfl (Nat.le_of_ble_eq_true rfl) ⟨(Nat.le_of_ble_eq_true rfl), (Nat.le_of_ble_eq_true rfl)⟩ rfl (fun u25 h => ?_)
    refine a_aload_n C dX10_soonestOrder_28 rfl 0 rfl rfl ?_
    refine g_10_10 C hE dX10_soonestOrder_29 ho kw_2_160 rfl ?_
    have k29 : ms_is E (ms_at E o 10) 2 := ms_wt hE ho rfl (by decide)
    refine a_aload_n C dX10_soonestOrder_32 rfl 0 rfl rfl ?_
    refine g_10_3 C hE dX10_soonestOrder_33 ho kw_2_153 rfl ?_
    have k33 : ms_is E (ms_at E o 3) 7 := ms_wt hE ho rfl (by decide)
    refine a_aload_n C dX10_soonestOrder_36 rfl 0 rfl rfl ?_
    refine g_10_8 C hE dX10_soonestOrder_37 ho kw_2_158 rfl ?_
    have k37 : ms_is E (ms_at E o 8) 1 := ms_wt hE ho rfl (by decide)
    refine a_iload_n C dX10_soonestOrder_40 rfl 1 rfl rfl ?_
    refine a_iload_n C dX10_soonestOrder_41 rfl 2 rfl rfl ?_
    refine a_callVI C (c_X2_soonestEnd l G cy L E hE u25 (ms_at E o 10) (ms_at E o 3) (ms_at E o 8) a1 a2 k29 k33 k37 _ h) k29 rfl (by decide) kw_5_59 kw_5_60 kw_5_61 kw_1_11 kw_5_62 rfl rfl pd_X2_soonestEnd ⟨(Nat.le_of_ble_eq_true rfl), (Nat.le_of_ble_eq_true rfl)⟩ dX10_soonestOrder_42 rfl (Nat.le_of_ble_eq_true rfl) ⟨(Nat.le_of_ble_eq_true rfl), (Nat.le_of_ble_eq_true rfl)⟩ rfl (fun r42 u42 h => ?_)
    refine a_istore (lv' := [(0, .ref (L o)), (1, .int a1), (2, .int a2), (3, .int a3), (4, .int r42)]) C dX10_soonestOrder_45 (by decide) [1, 2, 3, 4, 0] rfl rfl ?_
    refine a_iload C dX10_soonestOrder_47 4 rfl rfl ?_
    refine a_iconst (v := (-1)) C dX10_soonestOrder_49 (by decide) rfl ?_
    refine a_icmp_eq (tgt := 64) C dX10_soonestOrder_50 (by decide) rfl (fun hc => ?_) (fun hc => ?_)
    · replace h := h.1 hc
      refine a_wid (k := 2) (n := 12) (Nat.le_of_ble_eq_true rfl) (Nat.le_of_ble_eq_true rfl) ?_
      refine a_sub (lv' := []) [] rfl ?_
      exact c_X10_soonestOrder_64 C hr hlocks hnx hl9 hE ho  u42  h
    · replace h := h.2 hc
      refine a_iload_n C dX10_soonestOrder_53 rfl 3 rfl rfl ?_
      refine a_aload_n C dX10_soonestOrder_54 rfl 0 rfl rfl ?_
      refine g_10_10 C hE dX10_soonestOrder_55 ho kw_2_160 rfl ?_
      refine g_2_0 C dX10_soonestOrder_58 k29 kw_2_99 rfl ?_
      refine a_icmp_lt (tgt := 66) C dX10_soonestOrder_61 (by decide) rfl (fun hc => ?_) (fun hc => ?_)
      · replace h := h.1 hc
        refine a_aload_n C dX10_soonestOrder_66 rfl 0 rfl rfl ?_
        refine g_10_10 C hE dX10_soonestOrder_67 ho kw_2_160 rfl ?_
        refine a_iload C dX10_soonestOrder_70 4 rfl rfl ?_
        refine a_callVV C (c_X2_findOrder l G cy L E hE u42 (ms_at E o 10) r42 k29 _ h) k29 rfl (by decide) kw_5_105 kw_5_106 kw_5_107 kw_1_11 kw_5_108 rfl rfl pd_X2_findOrder ⟨(Nat.le_of_ble_eq_true rfl), (Nat.le_of_ble_eq_true rfl)⟩ dX10_soonestOrder_72 rfl (Nat.le_of_ble_eq_true rfl) ⟨(Nat.le_of_ble_eq_true rfl), (Nat.le_of_ble_eq_true rfl)⟩ rfl (fun u72 h => ?_)
        refine a_aload_n C dX10_soonestOrder_75 rfl 0 rfl rfl ?_
        refine g_10_10 C hE dX10_soonestOrder_76 ho kw_2_160 rfl ?_
        refine g_2_1 C hE dX10_soonestOrder_79 k29 kw_2_101 rfl ?_
        have k79 : ms_is E (ms_at E (ms_at E o 10) 1) 13 := ms_wt hE k29 rfl (by decide)
        have n79 : ms_N E (ms_at E (ms_at E o 10) 1) = 8 := ms_wl hE k29 (by decide) (by decide) rfl
        refine a_iload_n C dX10_soonestOrder_82 rfl 3 rfl rfl ?_
        obtain ⟨q83, h⟩ := h
        refine a_iald C dX10_soonestOrder_83 k79 n79 q83 rfl ?_
        refine a_retXI ?_
        exact a_iret C dX10_soonestOrder_84 hr hlocks (Nat.le_of_ble_eq_true rfl) (Nat.le_of_ble_eq_true rfl) h
      · replace h := h.2 hc
        refine a_wid (k := 2) (n := 12) (Nat.le_of_ble_eq_true rfl) (Nat.le_of_ble_eq_true rfl) ?_
        refine a_sub (lv' := []) [] rfl ?_
        exact c_X10_soonestOrder_64 C hr hlocks hnx hl9 hE ho  u42  h
  · replace h := h.2 hc
    exact a_throwI (j := 19) C hl9 hnx hlocks (by decide +kernel) rfl rfl kw_3_137 kw_1_16 (x_80 C) (by decide +kernel) dX10_soonestOrder_14 dX10_soonestOrder_17 dX10_soonestOrder_18 dX10_soonestOrder_20 dX10_soonestOrder_23 (Nat.le_of_ble_eq_true rfl) (Nat.le_of_ble_eq_true rfl) (Nat.le_of_ble_eq_true rfl) (Nat.le_of_ble_eq_true rfl) (Nat.le_of_ble_eq_true rfl) (Nat.le_of_ble_eq_true rfl) h

/-! CensusWalk.forgetAnswers()V -/
theorem pd_X10_forgetAnswers : (⟨"CensusWalk", "forgetAnswers", "()V"⟩ : MethodName).cls = "CensusWalk" ∧ (⟨"CensusWalk", "forgetAnswers", "()V"⟩ : MethodName).cls ≠ "java/lang/invoke/MethodHandle" ∧ (⟨"CensusWalk", "forgetAnswers", "()V"⟩ : MethodName).cls ≠ "java/lang/invoke/VarHandle" ∧ (parseMethodDescriptor (⟨"CensusWalk", "forgetAnswers", "()V"⟩ : MethodName).desc).map (fun d => d.parameters.length) = some 0 := by decide +kernel
def wp_X10_forgetAnswers (E : ms_En) (u : ms_St) (o : Nat) (post : ms_St → Prop) : Prop := post (ms_sI (ms_sI u o 11 0) o 12 0)
set_option maxHeartbeats 4000000 in
set_option maxRecDepth 100000 in
theorem c_X10_forgetAnswers (l : Launch) (G : va_G) (cy : Nat → ClassId) (L : Nat → Nat) (E : ms_En) (hE : ms_WT E) (u : ms_St) (o : Nat) (ho : ms_is E o 10) (post : ms_St → Prop) (h : wp_X10_forgetAnswers E u o post) : ms_MetV l ⟨"CensusWalk", "forgetAnswers", "()V"⟩ (Cond.code ⟨"CensusWalk", "forgetAnswers", "()V"⟩ prog_1_method_38_code 1 none :: lw_g) ({ frames := 0, cells := 0, slots := 0, locals := 0 } : Room) G cy L E [.ref (L o)] u post 0 0 := by
  refine ms_enterV (lv := [(0, .ref (L o))]) (by decide) (Nat.le_of_ble_eq_true rfl) rfl ?_
  intro p e s m args below meth c A C hr hlocks
  unfold wp_X10_forgetAnswers at h
  refine a_aload_n C dX10_forgetAnswers_0 rfl 0 rfl rfl ?_
  refine a_iconst (v := 0) C dX10_forgetAnswers_1 (by decide) rfl ?_
  refine s_10_11 C dX10_forgetAnswers_2 ho kw_2_161 rfl rfl rfl ?_
  refine a_aload_n C dX10_forgetAnswers_5 rfl 0 rfl rfl ?_
  refine a_iconst (v := 0) C dX10_forgetAnswers_6 (by decide) rfl ?_
  refine s_10_12 C dX10_forgetAnswers_7 ho kw_2_162 rfl rfl rfl ?_
  exact a_vret C dX10_forgetAnswers_10 hr hlocks (Nat.le_of_ble_eq_true rfl) (Nat.le_of_ble_eq_true rfl) h

/-! CensusWalk.beginChange()V -/
theorem pd_X10_beginChange : (⟨"CensusWalk", "beginChange", "()V"⟩ : MethodName).cls = "CensusWalk" ∧ (⟨"CensusWalk", "beginChange", "()V"⟩ : MethodName).cls ≠ "java/lang/invoke/MethodHandle" ∧ (⟨"CensusWalk", "beginChange", "()V"⟩ : MethodName).cls ≠ "java/lang/invoke/VarHandle" ∧ (parseMethodDescriptor (⟨"CensusWalk", "beginChange", "()V"⟩ : MethodName).desc).map (fun d => d.parameters.length) = some 0 := by decide +kernel
def wp_X10_beginChange_32 (E : ms_En) (o : Nat) (post : ms_St → Prop)  (u : ms_St)  : Prop := vp_in (((ms_I u o 5) + (ms_I u o 6)) - ((ms_I u o 5) + (ms_I u o 6)) / 8 * 8) 8 ∧ (wp_X7_copyFrom E u (ms_at E (ms_at E o 4) (Int32.toNatClampNeg (((ms_I u o 5) + (ms_I u o 6)) - ((ms_I u o 5) + (ms_I u o 6)) / 8 * 8))) (ms_at E o 3) (fun u53 => wp_X10_forgetAnswers E (ms_sI u53 o 6 ((ms_I u53 o 6) + 1)) o (fun u67 => post u67)))
set_option maxHeartbeats 4000000 in
set_option maxRecDepth 100000 in
theorem c_X10_beginChange_32 {p : Program} {l : Launch} {e : Env} {s : State} {m : MethodId} {args : Array Value} {below : List Frame} {meth : Method} {c : Code} {G : va_G} {cy : Nat → ClassId} {A : Nat → Prop} {L : Nat → Nat} {E : ms_En} (C : ms_Cx p m c cX10_beginChange 1 s args (Cond.code ⟨"CensusWalk", "beginChange", "()V"⟩ prog_1_method_37_code 1 none) "CensusWalk" G cy A) (hr : meth.sig.returnType = none) (hlocks : meth.locks = false) (hE : ms_WT E) {o : Nat} {post : ms_St → Prop}  (ho : ms_is E o 10)  (u : ms_St)   (h : wp_X10_beginChange_32 E o post u ) : ms_At p l e ({ frames := 3, cells := 0, slots := 0, locals := 103 } : Room) s m args below meth c 1 G cy A L 0 0 (ms_QV below args s G cy L E A post 0 0) E u 32 [(0, .ref (L o))] [] := by
  unfold wp_X10_beginChange_32 at h
  refine a_aload_n C dX10_beginChange_32 rfl 0 rfl rfl ?_
  refine g_10_4 C hE dX10_beginChange_33 ho kw_2_154 rfl ?_
  have k33 : ms_is E (ms_at E o 4) 16 := ms_wt hE ho rfl (by decide)
  have n33 : ms_N E (ms_at E o 4) = 8 := ms_wl hE ho (by decide) (by decide) rfl
  refine a_aload_n C dX10_beginChange_36 rfl 0 rfl rfl ?_
  refine g_10_5 C dX10_beginChange_37 ho kw_2_155 rfl ?_
  refine a_aload_n C dX10_beginChange_40 rfl 0 rfl rfl ?_
  refine g_10_6 C dX10_beginChange_41 ho kw_2_156 rfl ?_
  refine a_iadd C dX10_beginChange_44 rfl ?_
  refine a_bipush (v := 8) C dX10_beginChange_45 (by decide) rfl ?_
  refine a_irem C dX10_beginChange_47 (by decide) rfl ?_
  obtain ⟨q48, h⟩ := h
  refine a_aldT C dX10_beginChange_48 k33 n33 q48 (hE.2.1 _ _ k33 (ms_in n33 q48)).1 rfl ?_
  have k48 : ms_is E (ms_at E (ms_at E o 4) (Int32.toNatClampNeg (((ms_I u o 5) + (ms_I u o 6)) - ((ms_I u o 5) + (ms_I u o 6)) / 8 * 8))) 7 := (hE.2.1 _ _ k33 (ms_in n33 q48)).2
  refine a_aload_n C dX10_beginChange_49 rfl 0 rfl rfl ?_
  refine g_10_3 C hE dX10_beginChange_50 ho kw_2_153 rfl ?_
  have k50 : ms_is E (ms_at E o 3) 7 := ms_wt hE ho rfl (by decide)
  refine a_callVV C (c_X7_copyFrom l G cy L E hE u (ms_at E (ms_at E o 4) (Int32.toNatClampNeg (((ms_I u o 5) + (ms_I u o 6)) - ((ms_I u o 5) + (ms_I u o 6)) / 8 * 8))) (ms_at E o 3) k48 k50 _ h) k48 rfl (by decide) kw_3_98 kw_3_99 kw_3_100 kw_1_2 kw_3_101 rfl rfl pd_X7_copyFrom ⟨(Nat.le_of_ble_eq_true rfl), (Nat.le_of_ble_eq_true rfl)⟩ dX10_beginChange_53 rfl (Nat.le_of_ble_eq_true rfl) ⟨(Nat.le_of_ble_eq_true rfl), (Nat.le_of_ble_eq_true rfl)⟩ rfl (fun u53 h => ?_)
  refine a_aload_n C dX10_beginChange_56 rfl 0 rfl rfl ?_
  refine a_dup C dX10_beginChange_57 rfl rfl ?_
  refine g_10_6 C dX10_beginChange_58 ho kw_2_156 rfl ?_
  refine a_iconst (v := 1) C dX10_beginChange_61 (by decide) rfl ?_
  refine a_iadd C dX10_beginChange_62 rfl ?_
  refine s_10_6 C dX10_beginChange_63 ho kw_2_156 rfl ?_
  refine a_aload_n C dX10_beginChange_66 rfl 0 rfl rfl ?_
  refine a_callVV C (c_X10_forgetAnswers l G cy L E hE (ms_sI u53 o 6 ((ms_I u53 o 6) + 1)) o ho _ h) ho rfl (by decide) kw_3_119 kw_3_121 kp_11 kw_1_1 kw_3_122 rfl rfl pd_X10_forgetAnswers ⟨(Nat.le_of_ble_eq_true rfl), (Nat.le_of_ble_eq_true rfl)⟩ dX10_beginChange_67 rfl (Nat.le_of_ble_eq_true rfl) ⟨(Nat.le_of_ble_eq_true rfl), (Nat.le_of_ble_eq_true rfl)⟩ rfl (fun u67 h => ?_)
  exact a_vret C dX10_beginChange_70 hr hlocks (Nat.le_of_ble_eq_true rfl) (Nat.le_of_ble_eq_true rfl) h
def wp_X10_beginChange (E : ms_En) (u : ms_St) (o : Nat) (post : ms_St → Prop) : Prop := ((ms_I u o 6) = 8 → ∀ w29 : ms_St, w29 = (ms_sI (ms_sI u o 5 (((ms_I u o 5) + 1) - ((ms_I u o 5) + 1) / 8 * 8)) o 6 ((ms_I (ms_sI u o 5 (((ms_I u o 5) + 1) - ((ms_I u o 5) + 1) / 8 * 8)) o 6) - 1)) → (wp_X10_beginChange_32 E o post w29)) ∧ (¬ (ms_I u o 6) = 8 → wp_X10_beginChange_32 E o post u)
set_option maxHeartbeats 4000000 in
set_option maxRecDepth 100000 in
theorem c_X10_beginChange (l : Launch) (G : va_G) (cy : Nat → ClassId) (L : Nat → Nat) (E : ms_En) (hE : ms_WT E) (u : ms_St) (o : Nat) (ho : ms_is E o 10) (post : ms_St → Prop) (h : wp_X10_beginChange E u o post) : ms_MetV l ⟨"CensusWalk", "beginChange", "()V"⟩ (Cond.code ⟨"CensusWalk", "beginChange", "()V"⟩ prog_1_method_37_code 1 none :: lw_g) ({ frames := 3, cells := 0, slots := 0, locals := 103 } : Room) G cy L E [.ref (L o)] u post 0 0 := by
  refine ms_enterV (lv := [(0, .ref (L o))]) (by decide) (Nat.le_of_ble_eq_true rfl) rfl ?_
  intro p e s m args below meth c A C hr hlocks
  unfold wp_X10_beginChange at h
  refine a_aload_n C dX10_beginChange_0 rfl 0 rfl rfl ?_
  refine g_10_6 C dX10_beginChange_1 ho kw_2_156 rfl ?_
  refine a_bipush (v := 8) C dX10_beginChange_4 (by decide) rfl ?_
  refine a_icmp_ne (tgt := 32) C dX10_beginChange_6 (by decide) rfl (fun hc => ?_) (fun hc => ?_)
  · replace h := h.2 hc
    exact c_X10_beginChange_32 C hr hlocks hE ho  u  h
  · replace h := h.1 hc
    refine a_aload_n C dX10_beginChange_9 rfl 0 rfl rfl ?_
    refine a_aload_n C dX10_beginChange_10 rfl 0 rfl rfl ?_
    refine g_10_5 C dX10_beginChange_11 ho kw_2_155 rfl ?_
    refine a_iconst (v := 1) C dX10_beginChange_14 (by decide) rfl ?_
    refine a_iadd C dX10_beginChange_15 rfl ?_
    refine a_bipush (v := 8) C dX10_beginChange_16 (by decide) rfl ?_
    refine a_irem C dX10_beginChange_18 (by decide) rfl ?_
    refine s_10_5 C dX10_beginChange_19 ho kw_2_155 rfl ?_
    refine a_aload_n C dX10_beginChange_22 rfl 0 rfl rfl ?_
    refine a_dup C dX10_beginChange_23 rfl rfl ?_
    refine g_10_6 C dX10_beginChange_24 ho kw_2_156 rfl ?_
    refine a_iconst (v := 1) C dX10_beginChange_27 (by decide) rfl ?_
    refine a_isub C dX10_beginChange_28 rfl ?_
    refine s_10_6 C dX10_beginChange_29 ho kw_2_156 rfl ?_
    refine a_nmU (fun w29 e29 => ?_)
    replace h := h w29 e29
    exact c_X10_beginChange_32 C hr hlocks hE ho  w29  h

/-! CensusWalk.plan(II)I -/
theorem pd_X10_plan : (⟨"CensusWalk", "plan", "(II)I"⟩ : MethodName).cls = "CensusWalk" ∧ (⟨"CensusWalk", "plan", "(II)I"⟩ : MethodName).cls ≠ "java/lang/invoke/MethodHandle" ∧ (⟨"CensusWalk", "plan", "(II)I"⟩ : MethodName).cls ≠ "java/lang/invoke/VarHandle" ∧ (parseMethodDescriptor (⟨"CensusWalk", "plan", "(II)I"⟩ : MethodName).desc).map (fun d => d.parameters.length) = some 2 := by decide +kernel
def wp_X10_plan (E : ms_En) (u : ms_St) (o : Nat) (a1 : Int32) (a2 : Int32) (post : Int32 → ms_St → Prop) (px : String → ms_St → Prop) : Prop := wp_X10_checkWalker E u o a1 (fun u2 => wp_X10_checkHouse E u2 o a2 (fun u7 => vp_in a1 3 ∧ (∀ v22 : Int32, v22 = (ms_I u7 (ms_at E (ms_at E (ms_at E o 3) 5) 3) (Int32.toNatClampNeg a1)) → ((v22 < 12 → wp_X10_beginChange E u7 o (fun u40 => vp_in ((a1 * 12) + v22) 36 ∧ (∀ w60 : ms_St, w60 = (ms_sI u40 (ms_at E (ms_at E (ms_at E o 3) 5) 4) (Int32.toNatClampNeg ((a1 * 12) + v22)) a2) → (vp_in a1 3 ∧ (post (v22 + 1) (ms_sI w60 (ms_at E (ms_at E (ms_at E o 3) 5) 3) (Int32.toNatClampNeg a1) (v22 + 1))))))) ∧ (¬ v22 < 12 → px "java/lang/IllegalStateException" u7)))) px) px
set_option maxHeartbeats 4000000 in
set_option maxRecDepth 100000 in
theorem c_X10_plan (l : Launch) (G : va_G) (cy : Nat → ClassId) (L : Nat → Nat) (E : ms_En) (hE : ms_WT E) (hl9 : l.stackTraces = false) (u : ms_St) (o : Nat) (a1 : Int32) (a2 : Int32) (ho : ms_is E o 10) (post : Int32 → ms_St → Prop) (px : String → ms_St → Prop) (h : wp_X10_plan E u o a1 a2 post px) : ms_XI l ⟨"CensusWalk", "plan", "(II)I"⟩ (Cond.code ⟨"CensusWalk", "plan", "(II)I"⟩ prog_1_method_29_code 4 (some .int) :: lw_g) ({ frames := 7, cells := 3, slots := 18, locals := 141 } : Room) G cy L E [.ref (L o), .int a1, .int a2] u post px 3 18 := by
  refine ms_enterXI (lv := [(0, .ref (L o)), (1, .int a1), (2, .int a2)]) (by decide) (Nat.le_of_ble_eq_true rfl) rfl ?_
  intro p e s m args below meth c A C hr hlocks hnx
  unfold wp_X10_plan at h
  refine a_aload_n C dX10_plan_0 rfl 0 rfl rfl ?_
  refine a_iload_n C dX10_plan_1 rfl 1 rfl rfl ?_
  refine a_xcallVI C hnx hlocks (c_X10_checkWalker l G cy L E hE hl9 u o a1 ho _ _ h) ho rfl (by decide) kw_4_235 kw_4_237 kp_27 kw_1_1 kw_4_238 rfl rfl pd_X10_checkWalker ⟨(Nat.le_of_ble_eq_true rfl), (Nat.le_of_ble_eq_true rfl)⟩ dX10_plan_2 rfl (Nat.le_of_ble_eq_true rfl) ⟨(Nat.le_of_ble_eq_true rfl), (Nat.le_of_ble_eq_true rfl)⟩ ⟨(Nat.le_of_ble_eq_true rfl), (Nat.le_of_ble_eq_true rfl)⟩ rfl (fun u2 h => ?_)
  refine a_aload_n C dX10_plan_5 rfl 0 rfl rfl ?_
  refine a_iload_n C dX10_plan_6 rfl 2 rfl rfl ?_
  refine a_xcallVI C hnx hlocks (c_X10_checkHouse l G cy L E hE hl9 u2 o a2 ho _ _ h) ho rfl (by decide) kw_4_152 kw_4_154 kp_25 kw_1_1 kw_4_155 rfl rfl pd_X10_checkHouse ⟨(Nat.le_of_ble_eq_true rfl), (Nat.le_of_ble_eq_true rfl)⟩ dX10_plan_7 rfl (Nat.le_of_ble_eq_true rfl) ⟨(Nat.le_of_ble_eq_true rfl), (Nat.le_of_ble_eq_true rfl)⟩ ⟨(Nat.le_of_ble_eq_true rfl), (Nat.le_of_ble_eq_true rfl)⟩ rfl (fun u7 h => ?_)
  refine a_aload_n C dX10_plan_10 rfl 0 rfl rfl ?_
  refine g_10_3 C hE dX10_plan_11 ho kw_2_153 rfl ?_
  have k11 : ms_is E (ms_at E o 3) 7 := ms_wt hE ho rfl (by decide)
  refine g_7_5 C hE dX10_plan_14 k11 kw_1_189 rfl ?_
  have k14 : ms_is E (ms_at E (ms_at E o 3) 5) 9 := ms_wt hE k11 rfl (by decide)
  refine g_9_3 C hE dX10_plan_17 k14 kw_1_151 rfl ?_
  have k17 : ms_is E (ms_at E (ms_at E (ms_at E o 3) 5) 3) 13 := ms_wt hE k14 rfl (by decide)
  have n17 : ms_N E (ms_at E (ms_at E (ms_at E o 3) 5) 3) = 3 := ms_wl hE k14 (by decide) (by decide) rfl
  refine a_iload_n C dX10_plan_20 rfl 1 rfl rfl ?_
  obtain ⟨q21, h⟩ := h
  refine a_iald C dX10_plan_21 k17 n17 q21 rfl ?_
  refine a_nmI (fun v22 e22 => ?_)
  replace h := h v22 e22
  refine a_istore_n (lv' := [(0, .ref (L o)), (1, .int a1), (2, .int a2), (3, .int v22)]) C dX10_plan_22 rfl (by decide) [1, 2, 3, 0] rfl rfl ?_
  refine a_iload_n C dX10_plan_23 rfl 3 rfl rfl ?_
  refine a_bipush (v := 12) C dX10_plan_24 (by decide) rfl ?_
  refine a_icmp_lt (tgt := 39) C dX10_plan_26 (by decide) rfl (fun hc => ?_) (fun hc => ?_)
  · replace h := h.1 hc
    refine a_aload_n C dX10_plan_39 rfl 0 rfl rfl ?_
    refine a_callVV C (c_X10_beginChange l G cy L E hE u7 o ho _ h) ho rfl (by decide) kw_4_140 kw_4_142 kp_24 kw_1_1 kw_4_143 rfl rfl pd_X10_beginChange ⟨(Nat.le_of_ble_eq_true rfl), (Nat.le_of_ble_eq_true rfl)⟩ dX10_plan_40 rfl (Nat.le_of_ble_eq_true rfl) ⟨(Nat.le_of_ble_eq_true rfl), (Nat.le_of_ble_eq_true rfl)⟩ rfl (fun u40 h => ?_)
    refine a_aload_n C dX10_plan_43 rfl 0 rfl rfl ?_
    refine g_10_3 C hE dX10_plan_44 ho kw_2_153 rfl ?_
    refine g_7_5 C hE dX10_plan_47 k11 kw_1_189 rfl ?_
    refine g_9_4 C hE dX10_plan_50 k14 kw_1_153 rfl ?_
    have k50 : ms_is E (ms_at E (ms_at E (ms_at E o 3) 5) 4) 13 := ms_wt hE k14 rfl (by decide)
    have n50 : ms_N E (ms_at E (ms_at E (ms_at E o 3) 5) 4) = 36 := ms_wl hE k14 (by decide) (by decide) rfl
    refine a_iload_n C dX10_plan_53 rfl 1 rfl rfl ?_
    refine a_bipush (v := 12) C dX10_plan_54 (by decide) rfl ?_
    refine a_imul C dX10_plan_56 rfl ?_
    refine a_iload_n C dX10_plan_57 rfl 3 rfl rfl ?_
    refine a_iadd C dX10_plan_58 rfl ?_
    refine a_iload_n C dX10_plan_59 rfl 2 rfl rfl ?_
    obtain ⟨q60, h⟩ := h
    refine a_iast C dX10_plan_60 k50 n50 q60 rfl ?_
    refine a_nmU (fun w60 e60 => ?_)
    replace h := h w60 e60
    refine a_aload_n C dX10_plan_61 rfl 0 rfl rfl ?_
    refine g_10_3 C hE dX10_plan_62 ho kw_2_153 rfl ?_
    refine g_7_5 C hE dX10_plan_65 k11 kw_1_189 rfl ?_
    refine g_9_3 C hE dX10_plan_68 k14 kw_1_151 rfl ?_
    refine a_iload_n C dX10_plan_71 rfl 1 rfl rfl ?_
    refine a_iload_n C dX10_plan_72 rfl 3 rfl rfl ?_
    refine a_iconst (v := 1) C dX10_plan_73 (by decide) rfl ?_
    refine a_iadd C dX10_plan_74 rfl ?_
    obtain ⟨q75, h⟩ := h
    refine a_iast C dX10_plan_75 k17 n17 q75 rfl ?_
    refine a_iload_n C dX10_plan_76 rfl 3 rfl rfl ?_
    refine a_iconst (v := 1) C dX10_plan_77 (by decide) rfl ?_
    refine a_iadd C dX10_plan_78 rfl ?_
    refine a_retXI ?_
    exact a_iret C dX10_plan_79 hr hlocks (Nat.le_of_ble_eq_true rfl) (Nat.le_of_ble_eq_true rfl) h
  · replace h := h.2 hc
    exact a_throwI (j := 20) C hl9 hnx hlocks (by decide +kernel) rfl rfl kw_5_168 kw_1_26 (x_241 C) (by decide +kernel) dX10_plan_29 dX10_plan_32 dX10_plan_33 dX10_plan_35 dX10_plan_38 (Nat.le_of_ble_eq_true rfl) (Nat.le_of_ble_eq_true rfl) (Nat.le_of_ble_eq_true rfl) (Nat.le_of_ble_eq_true rfl) (Nat.le_of_ble_eq_true rfl) (Nat.le_of_ble_eq_true rfl) h

/-! CensusWalk.unplan(I)I -/
theorem pd_X10_unplan : (⟨"CensusWalk", "unplan", "(I)I"⟩ : MethodName).cls = "CensusWalk" ∧ (⟨"CensusWalk", "unplan", "(I)I"⟩ : MethodName).cls ≠ "java/lang/invoke/MethodHandle" ∧ (⟨"CensusWalk", "unplan", "(I)I"⟩ : MethodName).cls ≠ "java/lang/invoke/VarHandle" ∧ (parseMethodDescriptor (⟨"CensusWalk", "unplan", "(I)I"⟩ : MethodName).desc).map (fun d => d.parameters.length) = some 1 := by decide +kernel
def wp_X10_unplan (E : ms_En) (u : ms_St) (o : Nat) (a1 : Int32) (post : Int32 → ms_St → Prop) (px : String → ms_St → Prop) : Prop := wp_X10_checkWalker E u o a1 (fun u2 => vp_in a1 3 ∧ (∀ v17 : Int32, v17 = (ms_I u2 (ms_at E (ms_at E (ms_at E o 3) 5) 3) (Int32.toNatClampNeg a1)) → ((0 < v17 → wp_X10_beginChange E u2 o (fun u33 => vp_in a1 3 ∧ (vp_in (((a1 * 12) + v17) - 1) 36 ∧ (post (ms_I (ms_sI u33 (ms_at E (ms_at E (ms_at E o 3) 5) 3) (Int32.toNatClampNeg a1) (v17 - 1)) (ms_at E (ms_at E (ms_at E o 3) 5) 4) (Int32.toNatClampNeg (((a1 * 12) + v17) - 1))) (ms_sI u33 (ms_at E (ms_at E (ms_at E o 3) 5) 3) (Int32.toNatClampNeg a1) (v17 - 1)))))) ∧ (¬ 0 < v17 → px "java/lang/IllegalStateException" u2)))) px
set_option maxHeartbeats 4000000 in
set_option maxRecDepth 100000 in
theorem c_X10_unplan (l : Launch) (G : va_G) (cy : Nat → ClassId) (L : Nat → Nat) (E : ms_En) (hE : ms_WT E) (hl9 : l.stackTraces = false) (u : ms_St) (o : Nat) (a1 : Int32) (ho : ms_is E o 10) (post : Int32 → ms_St → Prop) (px : String → ms_St → Prop) (h : wp_X10_unplan E u o a1 post px) : ms_XI l ⟨"CensusWalk", "unplan", "(I)I"⟩ (Cond.code ⟨"CensusWalk", "unplan", "(I)I"⟩ prog_1_method_30_code 3 (some .int) :: lw_g) ({ frames := 7, cells := 2, slots := 12, locals := 141 } : Room) G cy L E [.ref (L o), .int a1] u post px 2 12 := by
  refine ms_enterXI (lv := [(0, .ref (L o)), (1, .int a1)]) (by decide) (Nat.le_of_ble_eq_true rfl) rfl ?_
  intro p e s m args below meth c A C hr hlocks hnx
  unfold wp_X10_unplan at h
  refine a_aload_n C dX10_unplan_0 rfl 0 rfl rfl ?_
  refine a_iload_n C dX10_unplan_1 rfl 1 rfl rfl ?_
  refine a_xcallVI C hnx hlocks (c_X10_checkWalker l G cy L E hE hl9 u o a1 ho _ _ h) ho rfl (by decide) kw_4_235 kw_4_237 kp_27 kw_1_1 kw_4_238 rfl rfl pd_X10_checkWalker ⟨(Nat.le_of_ble_eq_true rfl), (Nat.le_of_ble_eq_true rfl)⟩ dX10_unplan_2 rfl (Nat.le_of_ble_eq_true rfl) ⟨(Nat.le_of_ble_eq_true rfl), (Nat.le_of_ble_eq_true rfl)⟩ ⟨(Nat.le_of_ble_eq_true rfl), (Nat.le_of_ble_eq_true rfl)⟩ rfl (fun u2 h => ?_)
  refine a_aload_n C dX10_unplan_5 rfl 0 rfl rfl ?_
  refine g_10_3 C hE dX10_unplan_6 ho kw_2_153 rfl ?_
  have k6 : ms_is E (ms_at E o 3) 7 := ms_wt hE ho rfl (by decide)
  refine g_7_5 C hE dX10_unplan_9 k6 kw_1_189 rfl ?_
  have k9 : ms_is E (ms_at E (ms_at E o 3) 5) 9 := ms_wt hE k6 rfl (by decide)
  refine g_9_3 C hE dX10_unplan_12 k9 kw_1_151 rfl ?_
  have k12 : ms_is E (ms_at E (ms_at E (ms_at E o 3) 5) 3) 13 := ms_wt hE k9 rfl (by decide)
  have n12 : ms_N E (ms_at E (ms_at E (ms_at E o 3) 5) 3) = 3 := ms_wl hE k9 (by decide) (by decide) rfl
  refine a_iload_n C dX10_unplan_15 rfl 1 rfl rfl ?_
  obtain ⟨q16, h⟩ := h
  refine a_iald C dX10_unplan_16 k12 n12 q16 rfl ?_
  refine a_nmI (fun v17 e17 => ?_)
  replace h := h v17 e17
  refine a_istore_n (lv' := [(0, .ref (L o)), (1, .int a1), (2, .int v17)]) C dX10_unplan_17 rfl (by decide) [1, 2, 0] rfl rfl ?_
  refine a_iload_n C dX10_unplan_18 rfl 2 rfl rfl ?_
  refine a_if_gt (tgt := 32) C dX10_unplan_19 (by decide) rfl (fun hc => ?_) (fun hc => ?_)
  · replace h := h.1 hc
    refine a_aload_n C dX10_unplan_32 rfl 0 rfl rfl ?_
    refine a_callVV C (c_X10_beginChange l G cy L E hE u2 o ho _ h) ho rfl (by decide) kw_4_140 kw_4_142 kp_24 kw_1_1 kw_4_143 rfl rfl pd_X10_beginChange ⟨(Nat.le_of_ble_eq_true rfl), (Nat.le_of_ble_eq_true rfl)⟩ dX10_unplan_33 rfl (Nat.le_of_ble_eq_true rfl) ⟨(Nat.le_of_ble_eq_true rfl), (Nat.le_of_ble_eq_true rfl)⟩ rfl (fun u33 h => ?_)
    refine a_aload_n C dX10_unplan_36 rfl 0 rfl rfl ?_
    refine g_10_3 C hE dX10_unplan_37 ho kw_2_153 rfl ?_
    refine g_7_5 C hE dX10_unplan_40 k6 kw_1_189 rfl ?_
    refine g_9_3 C hE dX10_unplan_43 k9 kw_1_151 rfl ?_
    refine a_iload_n C dX10_unplan_46 rfl 1 rfl rfl ?_
    refine a_iload_n C dX10_unplan_47 rfl 2 rfl rfl ?_
    refine a_iconst (v := 1) C dX10_unplan_48 (by decide) rfl ?_
    refine a_isub C dX10_unplan_49 rfl ?_
    obtain ⟨q50, h⟩ := h
    refine a_iast C dX10_unplan_50 k12 n12 q50 rfl ?_
    refine a_aload_n C dX10_unplan_51 rfl 0 rfl rfl ?_
    refine g_10_3 C hE dX10_unplan_52 ho kw_2_153 rfl ?_
    refine g_7_5 C hE dX10_unplan_55 k6 kw_1_189 rfl ?_
    refine g_9_4 C hE dX10_unplan_58 k9 kw_1_153 rfl ?_
    have k58 : ms_is E (ms_at E (ms_at E (ms_at E o 3) 5) 4) 13 := ms_wt hE k9 rfl (by decide)
    have n58 : ms_N E (ms_at E (ms_at E (ms_at E o 3) 5) 4) = 36 := ms_wl hE k9 (by decide) (by decide) rfl
    refine a_iload_n C dX10_unplan_61 rfl 1 rfl rfl ?_
    refine a_bipush (v := 12) C dX10_unplan_62 (by decide) rfl ?_
    refine a_imul C dX10_unplan_64 rfl ?_
    refine a_iload_n C dX10_unplan_65 rfl 2 rfl rfl ?_
    refine a_iadd C dX10_unplan_66 rfl ?_
    refine a_iconst (v := 1) C dX10_unplan_67 (by decide) rfl ?_
    refine a_isub C dX10_unplan_68 rfl ?_
    obtain ⟨q69, h⟩ := h
    refine a_iald C dX10_unplan_69 k58 n58 q69 rfl ?_
    refine a_retXI ?_
    exact a_iret C dX10_unplan_70 hr hlocks (Nat.le_of_ble_eq_true rfl) (Nat.le_of_ble_eq_true rfl) h
  · replace h := h.2 hc
    exact a_throwI (j := 21) C hl9 hnx hlocks (by decide +kernel) rfl rfl kw_5_168 kw_1_26 (x_241 C) (by decide +kernel) dX10_unplan_22 dX10_unplan_25 dX10_unplan_26 dX10_unplan_28 dX10_unplan_31 (Nat.le_of_ble_eq_true rfl) (Nat.le_of_ble_eq_true rfl) (Nat.le_of_ble_eq_true rfl) (Nat.le_of_ble_eq_true rfl) (Nat.le_of_ble_eq_true rfl) (Nat.le_of_ble_eq_true rfl) h

/-! CensusWalk.setHours(III)I -/
theorem pd_X10_setHours : (⟨"CensusWalk", "setHours", "(III)I"⟩ : MethodName).cls = "CensusWalk" ∧ (⟨"CensusWalk", "setHours", "(III)I"⟩ : MethodName).cls ≠ "java/lang/invoke/MethodHandle" ∧ (⟨"CensusWalk", "setHours", "(III)I"⟩ : MethodName).cls ≠ "java/lang/invoke/VarHandle" ∧ (parseMethodDescriptor (⟨"CensusWalk", "setHours", "(III)I"⟩ : MethodName).desc).map (fun d => d.parameters.length) = some 3 := by decide +kernel
def wp_X10_setHours_28 (E : ms_En) (o : Nat) (a1 : Int32) (a2 : Int32) (a3 : Int32) (post : Int32 → ms_St → Prop) (px : String → ms_St → Prop)  (u : ms_St)  : Prop := px "java/lang/IllegalArgumentException" u
set_option maxHeartbeats 4000000 in
set_option maxRecDepth 100000 in
theorem c_X10_setHours_28 {p : Program} {l : Launch} {e : Env} {s : State} {m : MethodId} {args : Array Value} {below : List Frame} {meth : Method} {c : Code} {G : va_G} {cy : Nat → ClassId} {A : Nat → Prop} {L : Nat → Nat} {E : ms_En} (C : ms_Cx p m c cX10_setHours 4 s args (Cond.code ⟨"CensusWalk", "setHours", "(III)I"⟩ prog_1_method_31_code 4 (some .int)) "CensusWalk" G cy A) (hr : meth.sig.returnType = (some .int)) (hlocks : meth.locks = false) (hnx : ∀ x ∈ c.exceptionTable.toList, False) (hl9 : l.stackTraces = false) (hE : ms_WT E) {o : Nat} {a1 : Int32} {a2 : Int32} {a3 : Int32} {post : Int32 → ms_St → Prop} {px : String → ms_St → Prop}  (ho : ms_is E o 10)  (u : ms_St)   (h : wp_X10_setHours_28 E o a1 a2 a3 post px u ) : ms_At p l e ({ frames := 7, cells := 2, slots := 12, locals := 165 } : Room) s m args below meth c 4 G cy A L 1 6 (ms_QXI below args s G cy L E A post px 2 12) E u 28 [] [] := by
  unfold wp_X10_setHours_28 at h
  exact a_throwI (j := 22) C hl9 hnx hlocks (by decide +kernel) rfl rfl kw_3_137 kw_1_16 (x_80 C) (by decide +kernel) dX10_setHours_28 dX10_setHours_31 dX10_setHours_32 dX10_setHours_34 dX10_setHours_37 (Nat.le_of_ble_eq_true rfl) (Nat.le_of_ble_eq_true rfl) (Nat.le_of_ble_eq_true rfl) (Nat.le_of_ble_eq_true rfl) (Nat.le_of_ble_eq_true rfl) (Nat.le_of_ble_eq_true rfl) h
def wp_X10_setHours (E : ms_En) (u : ms_St) (o : Nat) (a1 : Int32) (a2 : Int32) (a3 : Int32) (post : Int32 → ms_St → Prop) (px : String → ms_St → Prop) : Prop := wp_X10_checkHouse E u o a1 (fun u2 => (a2 < 0 → wp_X10_setHours_28 E o a1 a2 a3 post px u2) ∧ (¬ a2 < 0 → (1440 ≤ a2 → wp_X10_setHours_28 E o a1 a2 a3 post px u2) ∧ (¬ 1440 ≤ a2 → (a3 ≤ a2 → wp_X10_setHours_28 E o a1 a2 a3 post px u2) ∧ (¬ a3 ≤ a2 → (a3 ≤ 1440 → wp_X10_beginChange E u2 o (fun u39 => vp_in a1 16 ∧ (vp_in a1 16 ∧ (∀ w67 : ms_St, w67 = (ms_sI (ms_sI u39 (ms_at E (ms_at E (ms_at E o 3) 4) 5) (Int32.toNatClampNeg a1) a2) (ms_at E (ms_at E (ms_at E o 3) 4) 6) (Int32.toNatClampNeg a1) a3) → (wp_X10_refreshSimulation E w67 o (fun u69 => wp_J6_bitCount_0f7a4 E u69 (ms_I u69 (ms_at E o 9) 4) (fun r79 u79 => post r79 u79))))))) ∧ (¬ a3 ≤ 1440 → wp_X10_setHours_28 E o a1 a2 a3 post px u2))))) px
set_option maxHeartbeats 4000000 in
set_option maxRecDepth 100000 in
theorem c_X10_setHours (l : Launch) (G : va_G) (cy : Nat → ClassId) (L : Nat → Nat) (E : ms_En) (hE : ms_WT E) (hl9 : l.stackTraces = false) (u : ms_St) (o : Nat) (a1 : Int32) (a2 : Int32) (a3 : Int32) (ho : ms_is E o 10) (post : Int32 → ms_St → Prop) (px : String → ms_St → Prop) (h : wp_X10_setHours E u o a1 a2 a3 post px) : ms_XI l ⟨"CensusWalk", "setHours", "(III)I"⟩ (Cond.code ⟨"CensusWalk", "setHours", "(III)I"⟩ prog_1_method_31_code 4 (some .int) :: lw_g) ({ frames := 7, cells := 2, slots := 12, locals := 165 } : Room) G cy L E [.ref (L o), .int a1, .int a2, .int a3] u post px 2 12 := by
  refine ms_enterXI (lv := [(0, .ref (L o)), (1, .int a1), (2, .int a2), (3, .int a3)]) (by decide) (Nat.le_of_ble_eq_true rfl) rfl ?_
  intro p e s m args below meth c A C hr hlocks hnx
  unfold wp_X10_setHours at h
  refine a_aload_n C dX10_setHours_0 rfl 0 rfl rfl ?_
  refine a_iload_n C dX10_setHours_1 rfl 1 rfl rfl ?_
  refine a_xcallVI C hnx hlocks (c_X10_checkHouse l G cy L E hE hl9 u o a1 ho _ _ h) ho rfl (by decide) kw_4_152 kw_4_154 kp_25 kw_1_1 kw_4_155 rfl rfl pd_X10_checkHouse ⟨(Nat.le_of_ble_eq_true rfl), (Nat.le_of_ble_eq_true rfl)⟩ dX10_setHours_2 rfl (Nat.le_of_ble_eq_true rfl) ⟨(Nat.le_of_ble_eq_true rfl), (Nat.le_of_ble_eq_true rfl)⟩ ⟨(Nat.le_of_ble_eq_true rfl), (Nat.le_of_ble_eq_true rfl)⟩ rfl (fun u2 h => ?_)
  refine a_iload_n C dX10_setHours_5 rfl 2 rfl rfl ?_
  refine a_if_lt (tgt := 28) C dX10_setHours_6 (by decide) rfl (fun hc => ?_) (fun hc => ?_)
  · replace h := h.1 hc
    refine a_wid (k := 1) (n := 6) (Nat.le_of_ble_eq_true rfl) (Nat.le_of_ble_eq_true rfl) ?_
    refine a_sub (lv' := []) [] rfl ?_
    exact c_X10_setHours_28 C hr hlocks hnx hl9 hE ho  u2  h
  · replace h := h.2 hc
    refine a_iload_n C dX10_setHours_9 rfl 2 rfl rfl ?_
    refine a_sipush (v := 1440) C dX10_setHours_10 (by decide) rfl ?_
    refine a_icmp_ge (tgt := 28) C dX10_setHours_13 (by decide) rfl (fun hc => ?_) (fun hc => ?_)
    · replace h := h.1 hc
      refine a_wid (k := 1) (n := 6) (Nat.le_of_ble_eq_true rfl) (Nat.le_of_ble_eq_true rfl) ?_
      refine a_sub (lv' := []) [] rfl ?_
      exact c_X10_setHours_28 C hr hlocks hnx hl9 hE ho  u2  h
    · replace h := h.2 hc
      refine a_iload_n C dX10_setHours_16 rfl 3 rfl rfl ?_
      refine a_iload_n C dX10_setHours_17 rfl 2 rfl rfl ?_
      refine a_icmp_le (tgt := 28) C dX10_setHours_18 (by decide) rfl (fun hc => ?_) (fun hc => ?_)
      · replace h := h.1 hc
        refine a_wid (k := 1) (n := 6) (Nat.le_of_ble_eq_true rfl) (Nat.le_of_ble_eq_true rfl) ?_
        refine a_sub (lv' := []) [] rfl ?_
        exact c_X10_setHours_28 C hr hlocks hnx hl9 hE ho  u2  h
      · replace h := h.2 hc
        refine a_iload_n C dX10_setHours_21 rfl 3 rfl rfl ?_
        refine a_sipush (v := 1440) C dX10_setHours_22 (by decide) rfl ?_
        refine a_icmp_le (tgt := 38) C dX10_setHours_25 (by decide) rfl (fun hc => ?_) (fun hc => ?_)
        · replace h := h.1 hc
          refine a_aload_n C dX10_setHours_38 rfl 0 rfl rfl ?_
          refine a_callVV C (c_X10_beginChange l G cy L E hE u2 o ho _ h) ho rfl (by decide) kw_4_140 kw_4_142 kp_24 kw_1_1 kw_4_143 rfl rfl pd_X10_beginChange ⟨(Nat.le_of_ble_eq_true rfl), (Nat.le_of_ble_eq_true rfl)⟩ dX10_setHours_39 rfl (Nat.le_of_ble_eq_true rfl) ⟨(Nat.le_of_ble_eq_true rfl), (Nat.le_of_ble_eq_true rfl)⟩ rfl (fun u39 h => ?_)
          refine a_aload_n C dX10_setHours_42 rfl 0 rfl rfl ?_
          refine g_10_3 C hE dX10_setHours_43 ho kw_2_153 rfl ?_
          have k43 : ms_is E (ms_at E o 3) 7 := ms_wt hE ho rfl (by decide)
          refine g_7_4 C hE dX10_setHours_46 k43 kw_1_181 rfl ?_
          have k46 : ms_is E (ms_at E (ms_at E o 3) 4) 0 := ms_wt hE k43 rfl (by decide)
          refine g_0_5 C hE dX10_setHours_49 k46 kw_1_103 rfl ?_
          have k49 : ms_is E (ms_at E (ms_at E (ms_at E o 3) 4) 5) 13 := ms_wt hE k46 rfl (by decide)
          have n49 : ms_N E (ms_at E (ms_at E (ms_at E o 3) 4) 5) = 16 := ms_wl hE k46 (by decide) (by decide) rfl
          refine a_iload_n C dX10_setHours_52 rfl 1 rfl rfl ?_
          refine a_iload_n C dX10_setHours_53 rfl 2 rfl rfl ?_
          obtain ⟨q54, h⟩ := h
          refine a_iast C dX10_setHours_54 k49 n49 q54 rfl ?_
          refine a_aload_n C dX10_setHours_55 rfl 0 rfl rfl ?_
          refine g_10_3 C hE dX10_setHours_56 ho kw_2_153 rfl ?_
          refine g_7_4 C hE dX10_setHours_59 k43 kw_1_181 rfl ?_
          refine g_0_6 C hE dX10_setHours_62 k46 kw_1_107 rfl ?_
          have k62 : ms_is E (ms_at E (ms_at E (ms_at E o 3) 4) 6) 13 := ms_wt hE k46 rfl (by decide)
          have n62 : ms_N E (ms_at E (ms_at E (ms_at E o 3) 4) 6) = 16 := ms_wl hE k46 (by decide) (by decide) rfl
          refine a_iload_n C dX10_setHours_65 rfl 1 rfl rfl ?_
          refine a_iload_n C dX10_setHours_66 rfl 3 rfl rfl ?_
          obtain ⟨q67, h⟩ := h
          refine a_iast C dX10_setHours_67 k62 n62 q67 rfl ?_
          refine a_nmU (fun w67 e67 => ?_)
          replace h := h w67 e67
          refine a_aload_n C dX10_setHours_68 rfl 0 rfl rfl ?_
          refine a_callVV C (c_X10_refreshSimulation l G cy L E hE w67 o ho _ h) ho rfl (by decide) kw_2_222 kw_2_224 kp_1 kw_1_1 kw_2_225 rfl rfl pd_X10_refreshSimulation ⟨(Nat.le_of_ble_eq_true rfl), (Nat.le_of_ble_eq_true rfl)⟩ dX10_setHours_69 rfl (Nat.le_of_ble_eq_true rfl) ⟨(Nat.le_of_ble_eq_true rfl), (Nat.le_of_ble_eq_true rfl)⟩ rfl (fun u69 h => ?_)
          refine a_aload_n C dX10_setHours_72 rfl 0 rfl rfl ?_
          refine g_10_9 C hE dX10_setHours_73 ho kw_2_159 rfl ?_
          have k73 : ms_is E (ms_at E o 9) 4 := ms_wt hE ho rfl (by decide)
          refine g_4_4 C dX10_setHours_76 k73 kw_2_68 rfl ?_
          refine a_callSI C (c_J6_bitCount_0f7a4 l G cy L E hE u69 (ms_I u69 (ms_at E o 9) 4)  _ h) kw_5_52 kw_5_53 kw_1_25 kw_5_54 rfl rfl pd_J6_bitCount_0f7a4 ⟨(Nat.le_of_ble_eq_true rfl), (Nat.le_of_ble_eq_true rfl)⟩ dX10_setHours_79 rfl (Nat.le_of_ble_eq_true rfl) ⟨(Nat.le_of_ble_eq_true rfl), (Nat.le_of_ble_eq_true rfl)⟩ rfl (fun r79 u79 h => ?_)
          refine a_retXI ?_
          exact a_iret C dX10_setHours_82 hr hlocks (Nat.le_of_ble_eq_true rfl) (Nat.le_of_ble_eq_true rfl) h
        · replace h := h.2 hc
          refine a_wid (k := 1) (n := 6) (Nat.le_of_ble_eq_true rfl) (Nat.le_of_ble_eq_true rfl) ?_
          refine a_sub (lv' := []) [] rfl ?_
          exact c_X10_setHours_28 C hr hlocks hnx hl9 hE ho  u2  h

/-! CensusWalk.setDog(IZ)Z -/
theorem pd_X10_setDog : (⟨"CensusWalk", "setDog", "(IZ)Z"⟩ : MethodName).cls = "CensusWalk" ∧ (⟨"CensusWalk", "setDog", "(IZ)Z"⟩ : MethodName).cls ≠ "java/lang/invoke/MethodHandle" ∧ (⟨"CensusWalk", "setDog", "(IZ)Z"⟩ : MethodName).cls ≠ "java/lang/invoke/VarHandle" ∧ (parseMethodDescriptor (⟨"CensusWalk", "setDog", "(IZ)Z"⟩ : MethodName).desc).map (fun d => d.parameters.length) = some 2 := by decide +kernel
def wp_X10_setDog (E : ms_En) (u : ms_St) (o : Nat) (a1 : Int32) (a2 : Int32) (post : Int32 → ms_St → Prop) (px : String → ms_St → Prop) : Prop := wp_X10_checkHouse E u o a1 (fun u2 => wp_X10_beginChange E u2 o (fun u6 => vp_in a1 16 ∧ (∀ v21 : Int32, v21 = (ms_I u6 (ms_at E (ms_at E (ms_at E o 3) 4) 7) (Int32.toNatClampNeg a1)) → (vp_in a1 16 ∧ (∀ w34 : ms_St, w34 = (ms_sI u6 (ms_at E (ms_at E (ms_at E o 3) 4) 7) (Int32.toNatClampNeg a1) (vp_nar .boolean a2)) → ((v21 = 0 ∨ v21 = 1) ∧ (post v21 w34))))))) px
set_option maxHeartbeats 4000000 in
set_option maxRecDepth 100000 in
theorem c_X10_setDog (l : Launch) (G : va_G) (cy : Nat → ClassId) (L : Nat → Nat) (E : ms_En) (hE : ms_WT E) (hl9 : l.stackTraces = false) (u : ms_St) (o : Nat) (a1 : Int32) (a2 : Int32) (ho : ms_is E o 10) (post : Int32 → ms_St → Prop) (px : String → ms_St → Prop) (h : wp_X10_setDog E u o a1 a2 post px) : ms_XI l ⟨"CensusWalk", "setDog", "(IZ)Z"⟩ (Cond.code ⟨"CensusWalk", "setDog", "(IZ)Z"⟩ prog_1_method_32_code 4 (some .boolean) :: lw_g) ({ frames := 7, cells := 1, slots := 6, locals := 141 } : Room) G cy L E [.ref (L o), .int a1, .int a2] u post px 1 6 := by
  refine ms_enterXI (lv := [(0, .ref (L o)), (1, .int a1), (2, .int a2)]) (by decide) (Nat.le_of_ble_eq_true rfl) rfl ?_
  intro p e s m args below meth c A C hr hlocks hnx
  unfold wp_X10_setDog at h
  refine a_aload_n C dX10_setDog_0 rfl 0 rfl rfl ?_
  refine a_iload_n C dX10_setDog_1 rfl 1 rfl rfl ?_
  refine a_xcallVI C hnx hlocks (c_X10_checkHouse l G cy L E hE hl9 u o a1 ho _ _ h) ho rfl (by decide) kw_4_152 kw_4_154 kp_25 kw_1_1 kw_4_155 rfl rfl pd_X10_checkHouse ⟨(Nat.le_of_ble_eq_true rfl), (Nat.le_of_ble_eq_true rfl)⟩ dX10_setDog_2 rfl (Nat.le_of_ble_eq_true rfl) ⟨(Nat.le_of_ble_eq_true rfl), (Nat.le_of_ble_eq_true rfl)⟩ ⟨(Nat.le_of_ble_eq_true rfl), (Nat.le_of_ble_eq_true rfl)⟩ rfl (fun u2 h => ?_)
  refine a_aload_n C dX10_setDog_5 rfl 0 rfl rfl ?_
  refine a_callVV C (c_X10_beginChange l G cy L E hE u2 o ho _ h) ho rfl (by decide) kw_4_140 kw_4_142 kp_24 kw_1_1 kw_4_143 rfl rfl pd_X10_beginChange ⟨(Nat.le_of_ble_eq_true rfl), (Nat.le_of_ble_eq_true rfl)⟩ dX10_setDog_6 rfl (Nat.le_of_ble_eq_true rfl) ⟨(Nat.le_of_ble_eq_true rfl), (Nat.le_of_ble_eq_true rfl)⟩ rfl (fun u6 h => ?_)
  refine a_aload_n C dX10_setDog_9 rfl 0 rfl rfl ?_
  refine g_10_3 C hE dX10_setDog_10 ho kw_2_153 rfl ?_
  have k10 : ms_is E (ms_at E o 3) 7 := ms_wt hE ho rfl (by decide)
  refine g_7_4 C hE dX10_setDog_13 k10 kw_1_181 rfl ?_
  have k13 : ms_is E (ms_at E (ms_at E o 3) 4) 0 := ms_wt hE k10 rfl (by decide)
  refine g_0_7 C hE dX10_setDog_16 k13 kw_1_110 rfl ?_
  have k16 : ms_is E (ms_at E (ms_at E (ms_at E o 3) 4) 7) 15 := ms_wt hE k13 rfl (by decide)
  have n16 : ms_N E (ms_at E (ms_at E (ms_at E o 3) 4) 7) = 16 := ms_wl hE k13 (by decide) (by decide) rfl
  refine a_iload_n C dX10_setDog_19 rfl 1 rfl rfl ?_
  obtain ⟨q20, h⟩ := h
  refine a_zald C dX10_setDog_20 k16 n16 q20 rfl ?_
  refine a_nmI (fun v21 e21 => ?_)
  replace h := h v21 e21
  refine a_istore_n (lv' := [(0, .ref (L o)), (1, .int a1), (2, .int a2), (3, .int v21)]) C dX10_setDog_21 rfl (by decide) [1, 2, 3, 0] rfl rfl ?_
  refine a_aload_n C dX10_setDog_22 rfl 0 rfl rfl ?_
  refine g_10_3 C hE dX10_setDog_23 ho kw_2_153 rfl ?_
  refine g_7_4 C hE dX10_setDog_26 k10 kw_1_181 rfl ?_
  refine g_0_7 C hE dX10_setDog_29 k13 kw_1_110 rfl ?_
  refine a_iload_n C dX10_setDog_32 rfl 1 rfl rfl ?_
  refine a_iload_n C dX10_setDog_33 rfl 2 rfl rfl ?_
  obtain ⟨q34, h⟩ := h
  refine a_zast C dX10_setDog_34 k16 n16 q34 rfl ?_
  refine a_nmU (fun w34 e34 => ?_)
  replace h := h w34 e34
  refine a_iload_n C dX10_setDog_35 rfl 3 rfl rfl ?_
  refine a_retXI ?_
  obtain ⟨q36, h⟩ := h
  exact a_zret C dX10_setDog_36 hr hlocks (Nat.le_of_ble_eq_true rfl) (Nat.le_of_ble_eq_true rfl) (ms_nz q36) h

/-! CensusWalk.setOpen(IZ)Z -/
theorem pd_X10_setOpen : (⟨"CensusWalk", "setOpen", "(IZ)Z"⟩ : MethodName).cls = "CensusWalk" ∧ (⟨"CensusWalk", "setOpen", "(IZ)Z"⟩ : MethodName).cls ≠ "java/lang/invoke/MethodHandle" ∧ (⟨"CensusWalk", "setOpen", "(IZ)Z"⟩ : MethodName).cls ≠ "java/lang/invoke/VarHandle" ∧ (parseMethodDescriptor (⟨"CensusWalk", "setOpen", "(IZ)Z"⟩ : MethodName).desc).map (fun d => d.parameters.length) = some 2 := by decide +kernel
def wp_X10_setOpen (E : ms_En) (u : ms_St) (o : Nat) (a1 : Int32) (a2 : Int32) (post : Int32 → ms_St → Prop) (px : String → ms_St → Prop) : Prop := wp_X10_checkStreet E u o a1 (fun u2 => wp_X10_beginChange E u2 o (fun u6 => vp_in a1 12 ∧ (∀ v21 : Int32, v21 = (ms_I u6 (ms_at E (ms_at E (ms_at E o 3) 3) 4) (Int32.toNatClampNeg a1)) → (vp_in a1 12 ∧ (∀ w34 : ms_St, w34 = (ms_sI u6 (ms_at E (ms_at E (ms_at E o 3) 3) 4) (Int32.toNatClampNeg a1) (vp_nar .boolean a2)) → ((v21 = 0 ∨ v21 = 1) ∧ (post v21 w34))))))) px
set_option maxHeartbeats 4000000 in
set_option maxRecDepth 100000 in
theorem c_X10_setOpen (l : Launch) (G : va_G) (cy : Nat → ClassId) (L : Nat → Nat) (E : ms_En) (hE : ms_WT E) (hl9 : l.stackTraces = false) (u : ms_St) (o : Nat) (a1 : Int32) (a2 : Int32) (ho : ms_is E o 10) (post : Int32 → ms_St → Prop) (px : String → ms_St → Prop) (h : wp_X10_setOpen E u o a1 a2 post px) : ms_XI l ⟨"CensusWalk", "setOpen", "(IZ)Z"⟩ (Cond.code ⟨"CensusWalk", "setOpen", "(IZ)Z"⟩ prog_1_method_33_code 4 (some .boolean) :: lw_g) ({ frames := 7, cells := 1, slots := 6, locals := 141 } : Room) G cy L E [.ref (L o), .int a1, .int a2] u post px 1 6 := by
  refine ms_enterXI (lv := [(0, .ref (L o)), (1, .int a1), (2, .int a2)]) (by decide) (Nat.le_of_ble_eq_true rfl) rfl ?_
  intro p e s m args below meth c A C hr hlocks hnx
  unfold wp_X10_setOpen at h
  refine a_aload_n C dX10_setOpen_0 rfl 0 rfl rfl ?_
  refine a_iload_n C dX10_setOpen_1 rfl 1 rfl rfl ?_
  refine a_xcallVI C hnx hlocks (c_X10_checkStreet l G cy L E hE hl9 u o a1 ho _ _ h) ho rfl (by decide) kw_4_197 kw_4_199 kp_26 kw_1_1 kw_4_200 rfl rfl pd_X10_checkStreet ⟨(Nat.le_of_ble_eq_true rfl), (Nat.le_of_ble_eq_true rfl)⟩ dX10_setOpen_2 rfl (Nat.le_of_ble_eq_true rfl) ⟨(Nat.le_of_ble_eq_true rfl), (Nat.le_of_ble_eq_true rfl)⟩ ⟨(Nat.le_of_ble_eq_true rfl), (Nat.le_of_ble_eq_true rfl)⟩ rfl (fun u2 h => ?_)
  refine a_aload_n C dX10_setOpen_5 rfl 0 rfl rfl ?_
  refine a_callVV C (c_X10_beginChange l G cy L E hE u2 o ho _ h) ho rfl (by decide) kw_4_140 kw_4_142 kp_24 kw_1_1 kw_4_143 rfl rfl pd_X10_beginChange ⟨(Nat.le_of_ble_eq_true rfl), (Nat.le_of_ble_eq_true rfl)⟩ dX10_setOpen_6 rfl (Nat.le_of_ble_eq_true rfl) ⟨(Nat.le_of_ble_eq_true rfl), (Nat.le_of_ble_eq_true rfl)⟩ rfl (fun u6 h => ?_)
  refine a_aload_n C dX10_setOpen_9 rfl 0 rfl rfl ?_
  refine g_10_3 C hE dX10_setOpen_10 ho kw_2_153 rfl ?_
  have k10 : ms_is E (ms_at E o 3) 7 := ms_wt hE ho rfl (by decide)
  refine g_7_3 C hE dX10_setOpen_13 k10 kw_1_178 rfl ?_
  have k13 : ms_is E (ms_at E (ms_at E o 3) 3) 5 := ms_wt hE k10 rfl (by decide)
  refine g_5_4 C hE dX10_setOpen_16 k13 kw_1_61 rfl ?_
  have k16 : ms_is E (ms_at E (ms_at E (ms_at E o 3) 3) 4) 15 := ms_wt hE k13 rfl (by decide)
  have n16 : ms_N E (ms_at E (ms_at E (ms_at E o 3) 3) 4) = 12 := ms_wl hE k13 (by decide) (by decide) rfl
  refine a_iload_n C dX10_setOpen_19 rfl 1 rfl rfl ?_
  obtain ⟨q20, h⟩ := h
  refine a_zald C dX10_setOpen_20 k16 n16 q20 rfl ?_
  refine a_nmI (fun v21 e21 => ?_)
  replace h := h v21 e21
  refine a_istore_n (lv' := [(0, .ref (L o)), (1, .int a1), (2, .int a2), (3, .int v21)]) C dX10_setOpen_21 rfl (by decide) [1, 2, 3, 0] rfl rfl ?_
  refine a_aload_n C dX10_setOpen_22 rfl 0 rfl rfl ?_
  refine g_10_3 C hE dX10_setOpen_23 ho kw_2_153 rfl ?_
  refine g_7_3 C hE dX10_setOpen_26 k10 kw_1_178 rfl ?_
  refine g_5_4 C hE dX10_setOpen_29 k13 kw_1_61 rfl ?_
  refine a_iload_n C dX10_setOpen_32 rfl 1 rfl rfl ?_
  refine a_iload_n C dX10_setOpen_33 rfl 2 rfl rfl ?_
  obtain ⟨q34, h⟩ := h
  refine a_zast C dX10_setOpen_34 k16 n16 q34 rfl ?_
  refine a_nmU (fun w34 e34 => ?_)
  replace h := h w34 e34
  refine a_iload_n C dX10_setOpen_35 rfl 3 rfl rfl ?_
  refine a_retXI ?_
  obtain ⟨q36, h⟩ := h
  exact a_zret C dX10_setOpen_36 hr hlocks (Nat.le_of_ble_eq_true rfl) (Nat.le_of_ble_eq_true rfl) (ms_nz q36) h

/-! CensusWalk.undo()I -/
theorem pd_X10_undo : (⟨"CensusWalk", "undo", "()I"⟩ : MethodName).cls = "CensusWalk" ∧ (⟨"CensusWalk", "undo", "()I"⟩ : MethodName).cls ≠ "java/lang/invoke/MethodHandle" ∧ (⟨"CensusWalk", "undo", "()I"⟩ : MethodName).cls ≠ "java/lang/invoke/VarHandle" ∧ (parseMethodDescriptor (⟨"CensusWalk", "undo", "()I"⟩ : MethodName).desc).map (fun d => d.parameters.length) = some 0 := by decide +kernel
def wp_X10_undo (E : ms_En) (u : ms_St) (o : Nat) (post : Int32 → ms_St → Prop) : Prop := (0 < (ms_I u o 6) → vp_in (((ms_I (ms_sI u o 6 ((ms_I u o 6) - 1)) o 5) + (ms_I (ms_sI u o 6 ((ms_I u o 6) - 1)) o 6)) - ((ms_I (ms_sI u o 6 ((ms_I u o 6) - 1)) o 5) + (ms_I (ms_sI u o 6 ((ms_I u o 6) - 1)) o 6)) / 8 * 8) 8 ∧ (wp_X7_copyFrom E (ms_sI u o 6 ((ms_I u o 6) - 1)) (ms_at E o 3) (ms_at E (ms_at E o 4) (Int32.toNatClampNeg (((ms_I (ms_sI u o 6 ((ms_I u o 6) - 1)) o 5) + (ms_I (ms_sI u o 6 ((ms_I u o 6) - 1)) o 6)) - ((ms_I (ms_sI u o 6 ((ms_I u o 6) - 1)) o 5) + (ms_I (ms_sI u o 6 ((ms_I u o 6) - 1)) o 6)) / 8 * 8))) (fun u40 => wp_X10_forgetAnswers E u40 o (fun u44 => post (ms_I u44 o 6) u44)))) ∧ (¬ 0 < (ms_I u o 6) → post (-1) u)
set_option maxHeartbeats 4000000 in
set_option maxRecDepth 100000 in
theorem c_X10_undo (l : Launch) (G : va_G) (cy : Nat → ClassId) (L : Nat → Nat) (E : ms_En) (hE : ms_WT E) (u : ms_St) (o : Nat) (ho : ms_is E o 10) (post : Int32 → ms_St → Prop) (h : wp_X10_undo E u o post) : ms_MetI l ⟨"CensusWalk", "undo", "()I"⟩ (Cond.code ⟨"CensusWalk", "undo", "()I"⟩ prog_1_method_34_code 1 (some .int) :: lw_g) ({ frames := 3, cells := 0, slots := 0, locals := 103 } : Room) G cy L E [.ref (L o)] u post 0 0 := by
  refine ms_enterI (lv := [(0, .ref (L o))]) (by decide) (Nat.le_of_ble_eq_true rfl) rfl ?_
  intro p e s m args below meth c A C hr hlocks
  unfold wp_X10_undo at h
  refine a_aload_n C dX10_undo_0 rfl 0 rfl rfl ?_
  refine g_10_6 C dX10_undo_1 ho kw_2_156 rfl ?_
  refine a_if_gt (tgt := 9) C dX10_undo_4 (by decide) rfl (fun hc => ?_) (fun hc => ?_)
  · replace h := h.1 hc
    refine a_aload_n C dX10_undo_9 rfl 0 rfl rfl ?_
    refine a_dup C dX10_undo_10 rfl rfl ?_
    refine g_10_6 C dX10_undo_11 ho kw_2_156 rfl ?_
    refine a_iconst (v := 1) C dX10_undo_14 (by decide) rfl ?_
    refine a_isub C dX10_undo_15 rfl ?_
    refine s_10_6 C dX10_undo_16 ho kw_2_156 rfl ?_
    refine a_aload_n C dX10_undo_19 rfl 0 rfl rfl ?_
    refine g_10_3 C hE dX10_undo_20 ho kw_2_153 rfl ?_
    have k20 : ms_is E (ms_at E o 3) 7 := ms_wt hE ho rfl (by decide)
    refine a_aload_n C dX10_undo_23 rfl 0 rfl rfl ?_
    refine g_10_4 C hE dX10_undo_24 ho kw_2_154 rfl ?_
    have k24 : ms_is E (ms_at E o 4) 16 := ms_wt hE ho rfl (by decide)
    have n24 : ms_N E (ms_at E o 4) = 8 := ms_wl hE ho (by decide) (by decide) rfl
    refine a_aload_n C dX10_undo_27 rfl 0 rfl rfl ?_
    refine g_10_5 C dX10_undo_28 ho kw_2_155 rfl ?_
    refine a_aload_n C dX10_undo_31 rfl 0 rfl rfl ?_
    refine g_10_6 C dX10_undo_32 ho kw_2_156 rfl ?_
    refine a_iadd C dX10_undo_35 rfl ?_
    refine a_bipush (v := 8) C dX10_undo_36 (by decide) rfl ?_
    refine a_irem C dX10_undo_38 (by decide) rfl ?_
    obtain ⟨q39, h⟩ := h
    refine a_aldT C dX10_undo_39 k24 n24 q39 (hE.2.1 _ _ k24 (ms_in n24 q39)).1 rfl ?_
    have k39 : ms_is E (ms_at E (ms_at E o 4) (Int32.toNatClampNeg (((ms_I (ms_sI u o 6 ((ms_I u o 6) - 1)) o 5) + (ms_I (ms_sI u o 6 ((ms_I u o 6) - 1)) o 6)) - ((ms_I (ms_sI u o 6 ((ms_I u o 6) - 1)) o 5) + (ms_I (ms_sI u o 6 ((ms_I u o 6) - 1)) o 6)) / 8 * 8))) 7 := (hE.2.1 _ _ k24 (ms_in n24 q39)).2
    refine a_callVV C (c_X7_copyFrom l G cy L E hE (ms_sI u o 6 ((ms_I u o 6) - 1)) (ms_at E o 3) (ms_at E (ms_at E o 4) (Int32.toNatClampNeg (((ms_I (ms_sI u o 6 ((ms_I u o 6) - 1)) o 5) + (ms_I (ms_sI u o 6 ((ms_I u o 6) - 1)) o 6)) - ((ms_I (ms_sI u o 6 ((ms_I u o 6) - 1)) o 5) + (ms_I (ms_sI u o 6 ((ms_I u o 6) - 1)) o 6)) / 8 * 8))) k20 k39 _ h) k20 rfl (by decide) kw_3_98 kw_3_99 kw_3_100 kw_1_2 kw_3_101 rfl rfl pd_X7_copyFrom ⟨(Nat.le_of_ble_eq_true rfl), (Nat.le_of_ble_eq_true rfl)⟩ dX10_undo_40 rfl (Nat.le_of_ble_eq_true rfl) ⟨(Nat.le_of_ble_eq_true rfl), (Nat.le_of_ble_eq_true rfl)⟩ rfl (fun u40 h => ?_)
    refine a_aload_n C dX10_undo_43 rfl 0 rfl rfl ?_
    refine a_callVV C (c_X10_forgetAnswers l G cy L E hE u40 o ho _ h) ho rfl (by decide) kw_3_119 kw_3_121 kp_11 kw_1_1 kw_3_122 rfl rfl pd_X10_forgetAnswers ⟨(Nat.le_of_ble_eq_true rfl), (Nat.le_of_ble_eq_true rfl)⟩ dX10_undo_44 rfl (Nat.le_of_ble_eq_true rfl) ⟨(Nat.le_of_ble_eq_true rfl), (Nat.le_of_ble_eq_true rfl)⟩ rfl (fun u44 h => ?_)
    refine a_aload_n C dX10_undo_47 rfl 0 rfl rfl ?_
    refine g_10_6 C dX10_undo_48 ho kw_2_156 rfl ?_
    exact a_iret C dX10_undo_51 hr hlocks (Nat.le_of_ble_eq_true rfl) (Nat.le_of_ble_eq_true rfl) h
  · replace h := h.2 hc
    refine a_iconst (v := (-1)) C dX10_undo_7 (by decide) rfl ?_
    exact a_iret C dX10_undo_8 hr hlocks (Nat.le_of_ble_eq_true rfl) (Nat.le_of_ble_eq_true rfl) h

/-! CensusWalk.checksum()J -/
theorem pd_X10_checksum : (⟨"CensusWalk", "checksum", "()J"⟩ : MethodName).cls = "CensusWalk" ∧ (⟨"CensusWalk", "checksum", "()J"⟩ : MethodName).cls ≠ "java/lang/invoke/MethodHandle" ∧ (⟨"CensusWalk", "checksum", "()J"⟩ : MethodName).cls ≠ "java/lang/invoke/VarHandle" ∧ (parseMethodDescriptor (⟨"CensusWalk", "checksum", "()J"⟩ : MethodName).desc).map (fun d => d.parameters.length) = some 0 := by decide +kernel
def wp_X10_checksum_237 (E : ms_En) (o : Nat) (post : Int64 → ms_St → Prop) (k198 : ms_St → Int64 → Int32 → Prop) (u : ms_St) (x3 : Int32) (z0 : Int32) (z1 : Int64) : Prop := ∀ v239 : Int64, v239 = (z1 + (Int32.toInt64 z0)) → (k198 u v239 (x3 + 1))
set_option maxHeartbeats 4000000 in
set_option maxRecDepth 100000 in
theorem c_X10_checksum_237 {p : Program} {l : Launch} {e : Env} {s : State} {m : MethodId} {args : Array Value} {below : List Frame} {meth : Method} {c : Code} {G : va_G} {cy : Nat → ClassId} {A : Nat → Prop} {L : Nat → Nat} {E : ms_En} (C : ms_Cx p m c cX10_checksum 6 s args (Cond.code ⟨"CensusWalk", "checksum", "()J"⟩ prog_1_method_35_code 6 (some .long)) "CensusWalk" G cy A) (hr : meth.sig.returnType = (some .long)) (hlocks : meth.locks = false) (hE : ms_WT E) {o : Nat} {post : Int64 → ms_St → Prop} {k198 : ms_St → Int64 → Int32 → Prop} (ho : ms_is E o 10) (hk198 : ∀ (u : ms_St) (y1 : Int64) (x3 : Int32), k198 u y1 x3 → ms_At p l e ({ frames := 7, cells := 0, slots := 0, locals := 165 } : Room) s m args below meth c 6 G cy A L 0 0 (ms_QL below args s G cy L E A post 0 0) E u 198 [(0, .ref (L o)), (1, .long y1), (3, .int x3)] []) (u : ms_St) (x3 : Int32) (z0 : Int32) (z1 : Int64)  (h : wp_X10_checksum_237 E o post k198 u x3 z0 z1) : ms_At p l e ({ frames := 7, cells := 0, slots := 0, locals := 165 } : Room) s m args below meth c 6 G cy A L 0 0 (ms_QL below args s G cy L E A post 0 0) E u 237 [(0, .ref (L o)), (3, .int x3)] [.int z0, .long z1] := by
  unfold wp_X10_checksum_237 at h
  refine a_i2l C dX10_checksum_237 rfl ?_
  refine a_ladd C dX10_checksum_238 rfl ?_
  refine a_nmL (fun v239 e239 => ?_)
  replace h := h v239 e239
  refine a_lstore_n (lv' := [(0, .ref (L o)), (1, .long v239), (3, .int x3)]) C dX10_checksum_239 rfl (by decide) [1, 0, 2] rfl rfl ?_
  refine a_iinc (lv' := [(0, .ref (L o)), (1, .long v239), (3, .int (x3 + 1))]) (v := (x3 + 1)) C dX10_checksum_240 2 rfl (congrArg (fun z => x3 + z) (by decide)) (by decide) [1, 2, 0] rfl rfl ?_
  refine a_goto (tgt := 198) C dX10_checksum_243 (by decide) ?_
  exact hk198 u v239 (x3 + 1)  h
def wp_X10_checksum_198 (E : ms_En) (o : Nat) (post : Int64 → ms_St → Prop)  : Nat → ms_St → Int64 → Int32 → Prop
  | 0 => fun _ _ _ => False
  | n + 1 => fun u y1 x3 => ((ms_I u (ms_at E (ms_at E o 3) 3) 0) ≤ x3 → post ((31 * y1) + (Int32.toInt64 (ms_I u (ms_at E o 9) 4))) u) ∧ (¬ (ms_I u (ms_at E (ms_at E o 3) 3) 0) ≤ x3 → vp_in x3 12 ∧ (((ms_I u (ms_at E (ms_at E (ms_at E o 3) 3) 4) (Int32.toNatClampNeg x3)) = 0 → wp_X10_checksum_237 E o post (wp_X10_checksum_198 E o post n) u x3 0 (31 * y1)) ∧ (¬ (ms_I u (ms_at E (ms_at E (ms_at E o 3) 3) 4) (Int32.toNatClampNeg x3)) = 0 → wp_X10_checksum_237 E o post (wp_X10_checksum_198 E o post n) u x3 1 (31 * y1))))
set_option maxHeartbeats 4000000 in
set_option maxRecDepth 100000 in
theorem c_X10_checksum_198 {p : Program} {l : Launch} {e : Env} {s : State} {m : MethodId} {args : Array Value} {below : List Frame} {meth : Method} {c : Code} {G : va_G} {cy : Nat → ClassId} {A : Nat → Prop} {L : Nat → Nat} {E : ms_En} (C : ms_Cx p m c cX10_checksum 6 s args (Cond.code ⟨"CensusWalk", "checksum", "()J"⟩ prog_1_method_35_code 6 (some .long)) "CensusWalk" G cy A) (hr : meth.sig.returnType = (some .long)) (hlocks : meth.locks = false) (hE : ms_WT E) {o : Nat} {post : Int64 → ms_St → Prop}  (ho : ms_is E o 10)  : ∀ (n : Nat) (u : ms_St) (y1 : Int64) (x3 : Int32), wp_X10_checksum_198 E o post n u y1 x3 → ms_At p l e ({ frames := 7, cells := 0, slots := 0, locals := 165 } : Room) s m args below meth c 6 G cy A L 0 0 (ms_QL below args s G cy L E A post 0 0) E u 198 [(0, .ref (L o)), (1, .long y1), (3, .int x3)] [] := by
  intro n
  induction n with
  | zero =>
    intro u y1 x3  h
    exact absurd h id
  | succ n ih =>
    intro u y1 x3  h
    unfold wp_X10_checksum_198 at h
    refine a_iload_n C dX10_checksum_198 rfl 2 rfl rfl ?_
    refine a_aload_n C dX10_checksum_199 rfl 0 rfl rfl ?_
    refine g_10_3 C hE dX10_checksum_200 ho kw_2_153 rfl ?_
    have k200 : ms_is E (ms_at E o 3) 7 := ms_wt hE ho rfl (by decide)
    refine g_7_3 C hE dX10_checksum_203 k200 kw_1_178 rfl ?_
    have k203 : ms_is E (ms_at E (ms_at E o 3) 3) 5 := ms_wt hE k200 rfl (by decide)
    refine g_5_0 C dX10_checksum_206 k203 kw_1_51 rfl ?_
    refine a_icmp_ge (tgt := 246) C dX10_checksum_209 (by decide) rfl (fun hc => ?_) (fun hc => ?_)
    · replace h := h.1 hc
      refine a_ldc2 (v := 31) C dX10_checksum_246 kw_3_127 rfl ?_
      refine a_lload_n C dX10_checksum_249 rfl 1 rfl rfl ?_
      refine a_lmul C dX10_checksum_250 rfl ?_
      refine a_aload_n C dX10_checksum_251 rfl 0 rfl rfl ?_
      refine g_10_9 C hE dX10_checksum_252 ho kw_2_159 rfl ?_
      have k252 : ms_is E (ms_at E o 9) 4 := ms_wt hE ho rfl (by decide)
      refine g_4_4 C dX10_checksum_255 k252 kw_2_68 rfl ?_
      refine a_i2l C dX10_checksum_258 rfl ?_
      refine a_ladd C dX10_checksum_259 rfl ?_
      exact a_lret C dX10_checksum_260 hr hlocks (Nat.le_of_ble_eq_true rfl) (Nat.le_of_ble_eq_true rfl) h
    · replace h := h.2 hc
      refine a_ldc2 (v := 31) C dX10_checksum_212 kw_3_127 rfl ?_
      refine a_lload_n C dX10_checksum_215 rfl 1 rfl rfl ?_
      refine a_lmul C dX10_checksum_216 rfl ?_
      refine a_aload_n C dX10_checksum_217 rfl 0 rfl rfl ?_
      refine g_10_3 C hE dX10_checksum_218 ho kw_2_153 rfl ?_
      refine g_7_3 C hE dX10_checksum_221 k200 kw_1_178 rfl ?_
      refine g_5_4 C hE dX10_checksum_224 k203 kw_1_61 rfl ?_
      have k224 : ms_is E (ms_at E (ms_at E (ms_at E o 3) 3) 4) 15 := ms_wt hE k203 rfl (by decide)
      have n224 : ms_N E (ms_at E (ms_at E (ms_at E o 3) 3) 4) = 12 := ms_wl hE k203 (by decide) (by decide) rfl
      refine a_iload_n C dX10_checksum_227 rfl 2 rfl rfl ?_
      obtain ⟨q228, h⟩ := h
      refine a_zald C dX10_checksum_228 k224 n224 q228 rfl ?_
      refine a_if_eq (tgt := 236) C dX10_checksum_229 (by decide) rfl (fun hc => ?_) (fun hc => ?_)
      · replace h := h.1 hc
        refine a_iconst (v := 0) C dX10_checksum_236 (by decide) rfl ?_
        refine a_sub (lv' := [(0, .ref (L o)), (3, .int x3)]) [0, 2] rfl ?_
        exact c_X10_checksum_237 C hr hlocks hE ho ih u x3 0 (31 * y1)  h
      · replace h := h.2 hc
        refine a_iconst (v := 1) C dX10_checksum_232 (by decide) rfl ?_
        refine a_goto (tgt := 237) C dX10_checksum_233 (by decide) ?_
        refine a_sub (lv' := [(0, .ref (L o)), (3, .int x3)]) [0, 2] rfl ?_
        exact c_X10_checksum_237 C hr hlocks hE ho ih u x3 1 (31 * y1)  h
def wp_X10_checksum_187 (E : ms_En) (o : Nat) (post : Int64 → ms_St → Prop) (k131 : ms_St → Int64 → Int32 → Prop) (u : ms_St) (x3 : Int32) (z0 : Int32) (z1 : Int64) : Prop := ∀ v189 : Int64, v189 = (z1 + (Int32.toInt64 z0)) → (k131 u v189 (x3 + 1))
set_option maxHeartbeats 4000000 in
set_option maxRecDepth 100000 in
theorem c_X10_checksum_187 {p : Program} {l : Launch} {e : Env} {s : State} {m : MethodId} {args : Array Value} {below : List Frame} {meth : Method} {c : Code} {G : va_G} {cy : Nat → ClassId} {A : Nat → Prop} {L : Nat → Nat} {E : ms_En} (C : ms_Cx p m c cX10_checksum 6 s args (Cond.code ⟨"CensusWalk", "checksum", "()J"⟩ prog_1_method_35_code 6 (some .long)) "CensusWalk" G cy A) (hr : meth.sig.returnType = (some .long)) (hlocks : meth.locks = false) (hE : ms_WT E) {o : Nat} {post : Int64 → ms_St → Prop} {k131 : ms_St → Int64 → Int32 → Prop} (ho : ms_is E o 10) (hk131 : ∀ (u : ms_St) (y1 : Int64) (x3 : Int32), k131 u y1 x3 → ms_At p l e ({ frames := 7, cells := 0, slots := 0, locals := 165 } : Room) s m args below meth c 6 G cy A L 0 0 (ms_QL below args s G cy L E A post 0 0) E u 131 [(0, .ref (L o)), (1, .long y1), (3, .int x3)] []) (u : ms_St) (x3 : Int32) (z0 : Int32) (z1 : Int64)  (h : wp_X10_checksum_187 E o post k131 u x3 z0 z1) : ms_At p l e ({ frames := 7, cells := 0, slots := 0, locals := 165 } : Room) s m args below meth c 6 G cy A L 0 0 (ms_QL below args s G cy L E A post 0 0) E u 187 [(0, .ref (L o)), (3, .int x3)] [.int z0, .long z1] := by
  unfold wp_X10_checksum_187 at h
  refine a_i2l C dX10_checksum_187 rfl ?_
  refine a_ladd C dX10_checksum_188 rfl ?_
  refine a_nmL (fun v189 e189 => ?_)
  replace h := h v189 e189
  refine a_lstore_n (lv' := [(0, .ref (L o)), (1, .long v189), (3, .int x3)]) C dX10_checksum_189 rfl (by decide) [1, 0, 2] rfl rfl ?_
  refine a_iinc (lv' := [(0, .ref (L o)), (1, .long v189), (3, .int (x3 + 1))]) (v := (x3 + 1)) C dX10_checksum_190 2 rfl (congrArg (fun z => x3 + z) (by decide)) (by decide) [1, 2, 0] rfl rfl ?_
  refine a_goto (tgt := 131) C dX10_checksum_193 (by decide) ?_
  exact hk131 u v189 (x3 + 1)  h
def wp_X10_checksum_131 (E : ms_En) (o : Nat) (post : Int64 → ms_St → Prop)  : Nat → ms_St → Int64 → Int32 → Prop
  | 0 => fun _ _ _ => False
  | n + 1 => fun u y1 x3 => ((ms_I u (ms_at E (ms_at E o 3) 4) 0) ≤ x3 → ∃ n198, wp_X10_checksum_198 E o post n198 u y1 0) ∧ (¬ (ms_I u (ms_at E (ms_at E o 3) 4) 0) ≤ x3 → vp_in x3 16 ∧ (∀ v161 : Int64, v161 = ((31 * y1) + (Int32.toInt64 (ms_I u (ms_at E (ms_at E o 9) 3) (Int32.toNatClampNeg x3)))) → (vp_in x3 16 ∧ (((ms_I u (ms_at E (ms_at E (ms_at E o 3) 4) 7) (Int32.toNatClampNeg x3)) = 0 → wp_X10_checksum_187 E o post (wp_X10_checksum_131 E o post n) u x3 0 (31 * v161)) ∧ (¬ (ms_I u (ms_at E (ms_at E (ms_at E o 3) 4) 7) (Int32.toNatClampNeg x3)) = 0 → wp_X10_checksum_187 E o post (wp_X10_checksum_131 E o post n) u x3 1 (31 * v161))))))
set_option maxHeartbeats 4000000 in
set_option maxRecDepth 100000 in
theorem c_X10_checksum_131 {p : Program} {l : Launch} {e : Env} {s : State} {m : MethodId} {args : Array Value} {below : List Frame} {meth : Method} {c : Code} {G : va_G} {cy : Nat → ClassId} {A : Nat → Prop} {L : Nat → Nat} {E : ms_En} (C : ms_Cx p m c cX10_checksum 6 s args (Cond.code ⟨"CensusWalk", "checksum", "()J"⟩ prog_1_method_35_code 6 (some .long)) "CensusWalk" G cy A) (hr : meth.sig.returnType = (some .long)) (hlocks : meth.locks = false) (hE : ms_WT E) {o : Nat} {post : Int64 → ms_St → Prop}  (ho : ms_is E o 10)  : ∀ (n : Nat) (u : ms_St) (y1 : Int64) (x3 : Int32), wp_X10_checksum_131 E o post n u y1 x3 → ms_At p l e ({ frames := 7, cells := 0, slots := 0, locals := 165 } : Room) s m args below meth c 6 G cy A L 0 0 (ms_QL below args s G cy L E A post 0 0) E u 131 [(0, .ref (L o)), (1, .long y1), (3, .int x3)] [] := by
  intro n
  induction n with
  | zero =>
    intro u y1 x3  h
    exact absurd h id
  | succ n ih =>
    intro u y1 x3  h
    unfold wp_X10_checksum_131 at h
    refine a_iload_n C dX10_checksum_131 rfl 2 rfl rfl ?_
    refine a_aload_n C dX10_checksum_132 rfl 0 rfl rfl ?_
    refine g_10_3 C hE dX10_checksum_133 ho kw_2_153 rfl ?_
    have k133 : ms_is E (ms_at E o 3) 7 := ms_wt hE ho rfl (by decide)
    refine g_7_4 C hE dX10_checksum_136 k133 kw_1_181 rfl ?_
    have k136 : ms_is E (ms_at E (ms_at E o 3) 4) 0 := ms_wt hE k133 rfl (by decide)
    refine g_0_0 C dX10_checksum_139 k136 kw_1_84 rfl ?_
    refine a_icmp_ge (tgt := 196) C dX10_checksum_142 (by decide) rfl (fun hc => ?_) (fun hc => ?_)
    · replace h := h.1 hc
      refine a_iconst (v := 0) C dX10_checksum_196 (by decide) rfl ?_
      refine a_istore_n (lv' := [(0, .ref (L o)), (1, .long y1), (3, .int 0)]) C dX10_checksum_197 rfl (by decide) [1, 2, 0] rfl rfl ?_
      obtain ⟨n9, h⟩ := h
      exact c_X10_checksum_198 C hr hlocks hE ho  n9 u y1 0  h
    · replace h := h.2 hc
      refine a_ldc2 (v := 31) C dX10_checksum_145 kw_3_127 rfl ?_
      refine a_lload_n C dX10_checksum_148 rfl 1 rfl rfl ?_
      refine a_lmul C dX10_checksum_149 rfl ?_
      refine a_aload_n C dX10_checksum_150 rfl 0 rfl rfl ?_
      refine g_10_9 C hE dX10_checksum_151 ho kw_2_159 rfl ?_
      have k151 : ms_is E (ms_at E o 9) 4 := ms_wt hE ho rfl (by decide)
      refine g_4_3 C hE dX10_checksum_154 k151 kw_2_66 rfl ?_
      have k154 : ms_is E (ms_at E (ms_at E o 9) 3) 13 := ms_wt hE k151 rfl (by decide)
      have n154 : ms_N E (ms_at E (ms_at E o 9) 3) = 16 := ms_wl hE k151 (by decide) (by decide) rfl
      refine a_iload_n C dX10_checksum_157 rfl 2 rfl rfl ?_
      obtain ⟨q158, h⟩ := h
      refine a_iald C dX10_checksum_158 k154 n154 q158 rfl ?_
      refine a_i2l C dX10_checksum_159 rfl ?_
      refine a_ladd C dX10_checksum_160 rfl ?_
      refine a_nmL (fun v161 e161 => ?_)
      replace h := h v161 e161
      refine a_lstore_n (lv' := [(0, .ref (L o)), (1, .long v161), (3, .int x3)]) C dX10_checksum_161 rfl (by decide) [1, 0, 2] rfl rfl ?_
      refine a_ldc2 (v := 31) C dX10_checksum_162 kw_3_127 rfl ?_
      refine a_lload_n C dX10_checksum_165 rfl 1 rfl rfl ?_
      refine a_lmul C dX10_checksum_166 rfl ?_
      refine a_aload_n C dX10_checksum_167 rfl 0 rfl rfl ?_
      refine g_10_3 C hE dX10_checksum_168 ho kw_2_153 rfl ?_
      refine g_7_4 C hE dX10_checksum_171 k133 kw_1_181 rfl ?_
      refine g_0_7 C hE dX10_checksum_174 k136 kw_1_110 rfl ?_
      have k174 : ms_is E (ms_at E (ms_at E (ms_at E o 3) 4) 7) 15 := ms_wt hE k136 rfl (by decide)
      have n174 : ms_N E (ms_at E (ms_at E (ms_at E o 3) 4) 7) = 16 := ms_wl hE k136 (by decide) (by decide) rfl
      refine a_iload_n C dX10_checksum_177 rfl 2 rfl rfl ?_
      obtain ⟨q178, h⟩ := h
      refine a_zald C dX10_checksum_178 k174 n174 q178 rfl ?_
      refine a_if_eq (tgt := 186) C dX10_checksum_179 (by decide) rfl (fun hc => ?_) (fun hc => ?_)
      · replace h := h.1 hc
        refine a_iconst (v := 0) C dX10_checksum_186 (by decide) rfl ?_
        refine a_sub (lv' := [(0, .ref (L o)), (3, .int x3)]) [0, 2] rfl ?_
        exact c_X10_checksum_187 C hr hlocks hE ho ih u x3 0 (31 * v161)  h
      · replace h := h.2 hc
        refine a_iconst (v := 1) C dX10_checksum_182 (by decide) rfl ?_
        refine a_goto (tgt := 187) C dX10_checksum_183 (by decide) ?_
        refine a_sub (lv' := [(0, .ref (L o)), (3, .int x3)]) [0, 2] rfl ?_
        exact c_X10_checksum_187 C hr hlocks hE ho ih u x3 1 (31 * v161)  h
def wp_X10_checksum_66 (E : ms_En) (o : Nat) (post : Int64 → ms_St → Prop) (k8 : ms_St → Int64 → Int32 → Prop) : Nat → ms_St → Int64 → Int32 → Int32 → Int32 → Prop
  | 0 => fun _ _ _ _ _ => False
  | n + 1 => fun u y1 x3 x4 x5 => (x4 ≤ x5 → k8 u y1 (x3 + 1)) ∧ (¬ x4 ≤ x5 → wp_X9_plannedHouse E u (ms_at E (ms_at E o 3) 5) x3 x5 (fun r88 u88 => ∀ v93 : Int64, v93 = ((31 * y1) + (Int32.toInt64 r88)) → (vp_in ((x3 * 12) + x5) 36 ∧ (∀ v116 : Int64, v116 = ((31 * v93) + (Int32.toInt64 (ms_I u88 (ms_at E (ms_at E o 9) 0) (Int32.toNatClampNeg ((x3 * 12) + x5))))) → (wp_X10_checksum_66 E o post k8 n u88 v116 x3 x4 (x5 + 1))))))
set_option maxHeartbeats 4000000 in
set_option maxRecDepth 100000 in
theorem c_X10_checksum_66 {p : Program} {l : Launch} {e : Env} {s : State} {m : MethodId} {args : Array Value} {below : List Frame} {meth : Method} {c : Code} {G : va_G} {cy : Nat → ClassId} {A : Nat → Prop} {L : Nat → Nat} {E : ms_En} (C : ms_Cx p m c cX10_checksum 6 s args (Cond.code ⟨"CensusWalk", "checksum", "()J"⟩ prog_1_method_35_code 6 (some .long)) "CensusWalk" G cy A) (hr : meth.sig.returnType = (some .long)) (hlocks : meth.locks = false) (hE : ms_WT E) {o : Nat} {post : Int64 → ms_St → Prop} {k8 : ms_St → Int64 → Int32 → Prop} (ho : ms_is E o 10) (hk8 : ∀ (u : ms_St) (y1 : Int64) (x3 : Int32), k8 u y1 x3 → ms_At p l e ({ frames := 7, cells := 0, slots := 0, locals := 165 } : Room) s m args below meth c 6 G cy A L 0 0 (ms_QL below args s G cy L E A post 0 0) E u 8 [(0, .ref (L o)), (1, .long y1), (3, .int x3)] []) : ∀ (n : Nat) (u : ms_St) (y1 : Int64) (x3 : Int32) (x4 : Int32) (x5 : Int32), wp_X10_checksum_66 E o post k8 n u y1 x3 x4 x5 → ms_At p l e ({ frames := 7, cells := 0, slots := 0, locals := 165 } : Room) s m args below meth c 6 G cy A L 0 0 (ms_QL below args s G cy L E A post 0 0) E u 66 [(0, .ref (L o)), (1, .long y1), (3, .int x3), (4, .int x4), (5, .int x5)] [] := by
  intro n
  induction n with
  | zero =>
    intro u y1 x3 x4 x5  h
    exact absurd h id
  | succ n ih =>
    intro u y1 x3 x4 x5  h
    unfold wp_X10_checksum_66 at h
    refine a_iload C dX10_checksum_66 4 rfl rfl ?_
    refine a_iload C dX10_checksum_68 3 rfl rfl ?_
    refine a_icmp_ge (tgt := 123) C dX10_checksum_70 (by decide) rfl (fun hc => ?_) (fun hc => ?_)
    · replace h := h.1 hc
      refine a_iinc (lv' := [(0, .ref (L o)), (1, .long y1), (3, .int (x3 + 1)), (4, .int x4), (5, .int x5)]) (v := (x3 + 1)) C dX10_checksum_123 2 rfl (congrArg (fun z => x3 + z) (by decide)) (by decide) [1, 2, 0, 3, 4] rfl rfl ?_
      refine a_goto (tgt := 8) C dX10_checksum_126 (by decide) ?_
      refine a_sub (lv' := [(0, .ref (L o)), (1, .long y1), (3, .int (x3 + 1))]) [0, 1, 2] rfl ?_
      exact hk8 u y1 (x3 + 1)  h
    · replace h := h.2 hc
      refine a_ldc2 (v := 31) C dX10_checksum_73 kw_3_127 rfl ?_
      refine a_lload_n C dX10_checksum_76 rfl 1 rfl rfl ?_
      refine a_lmul C dX10_checksum_77 rfl ?_
      refine a_aload_n C dX10_checksum_78 rfl 0 rfl rfl ?_
      refine g_10_3 C hE dX10_checksum_79 ho kw_2_153 rfl ?_
      have k79 : ms_is E (ms_at E o 3) 7 := ms_wt hE ho rfl (by decide)
      refine g_7_5 C hE dX10_checksum_82 k79 kw_1_189 rfl ?_
      have k82 : ms_is E (ms_at E (ms_at E o 3) 5) 9 := ms_wt hE k79 rfl (by decide)
      refine a_iload_n C dX10_checksum_85 rfl 2 rfl rfl ?_
      refine a_iload C dX10_checksum_86 4 rfl rfl ?_
      refine a_callVI C (c_X9_plannedHouse l G cy L E hE u (ms_at E (ms_at E o 3) 5) x3 x5 k82 _ h) k82 rfl (by decide) kw_3_128 kw_3_23 kw_3_24 kw_1_5 kw_3_25 rfl rfl pd_X9_plannedHouse ⟨(Nat.le_of_ble_eq_true rfl), (Nat.le_of_ble_eq_true rfl)⟩ dX10_checksum_88 rfl (Nat.le_of_ble_eq_true rfl) ⟨(Nat.le_of_ble_eq_true rfl), (Nat.le_of_ble_eq_true rfl)⟩ rfl (fun r88 u88 h => ?_)
      refine a_i2l C dX10_checksum_91 rfl ?_
      refine a_ladd C dX10_checksum_92 rfl ?_
      refine a_nmL (fun v93 e93 => ?_)
      replace h := h v93 e93
      refine a_lstore_n (lv' := [(0, .ref (L o)), (1, .long v93), (3, .int x3), (4, .int x4), (5, .int x5)]) C dX10_checksum_93 rfl (by decide) [1, 0, 2, 3, 4] rfl rfl ?_
      refine a_ldc2 (v := 31) C dX10_checksum_94 kw_3_127 rfl ?_
      refine a_lload_n C dX10_checksum_97 rfl 1 rfl rfl ?_
      refine a_lmul C dX10_checksum_98 rfl ?_
      refine a_aload_n C dX10_checksum_99 rfl 0 rfl rfl ?_
      refine g_10_9 C hE dX10_checksum_100 ho kw_2_159 rfl ?_
      have k100 : ms_is E (ms_at E o 9) 4 := ms_wt hE ho rfl (by decide)
      refine g_4_0 C hE dX10_checksum_103 k100 kw_2_60 rfl ?_
      have k103 : ms_is E (ms_at E (ms_at E o 9) 0) 13 := ms_wt hE k100 rfl (by decide)
      have n103 : ms_N E (ms_at E (ms_at E o 9) 0) = 36 := ms_wl hE k100 (by decide) (by decide) rfl
      refine a_iload_n C dX10_checksum_106 rfl 2 rfl rfl ?_
      refine a_bipush (v := 12) C dX10_checksum_107 (by decide) rfl ?_
      refine a_imul C dX10_checksum_109 rfl ?_
      refine a_iload C dX10_checksum_110 4 rfl rfl ?_
      refine a_iadd C dX10_checksum_112 rfl ?_
      obtain ⟨q113, h⟩ := h
      refine a_iald C dX10_checksum_113 k103 n103 q113 rfl ?_
      refine a_i2l C dX10_checksum_114 rfl ?_
      refine a_ladd C dX10_checksum_115 rfl ?_
      refine a_nmL (fun v116 e116 => ?_)
      replace h := h v116 e116
      refine a_lstore_n (lv' := [(0, .ref (L o)), (1, .long v116), (3, .int x3), (4, .int x4), (5, .int x5)]) C dX10_checksum_116 rfl (by decide) [1, 0, 2, 3, 4] rfl rfl ?_
      refine a_iinc (lv' := [(0, .ref (L o)), (1, .long v116), (3, .int x3), (4, .int x4), (5, .int (x5 + 1))]) (v := (x5 + 1)) C dX10_checksum_117 4 rfl (congrArg (fun z => x5 + z) (by decide)) (by decide) [1, 2, 3, 4, 0] rfl rfl ?_
      refine a_goto (tgt := 66) C dX10_checksum_120 (by decide) ?_
      exact ih u88 v116 x3 x4 (x5 + 1)  h
def wp_X10_checksum_8 (E : ms_En) (o : Nat) (post : Int64 → ms_St → Prop)  : Nat → ms_St → Int64 → Int32 → Prop
  | 0 => fun _ _ _ => False
  | n + 1 => fun u y1 x3 => ((ms_I u (ms_at E (ms_at E o 3) 5) 0) ≤ x3 → ∃ n131, wp_X10_checksum_131 E o post n131 u y1 0) ∧ (¬ (ms_I u (ms_at E (ms_at E o 3) 5) 0) ≤ x3 → vp_in x3 3 ∧ (∀ v34 : Int32, v34 = (ms_I u (ms_at E (ms_at E (ms_at E o 3) 5) 3) (Int32.toNatClampNeg x3)) → (∀ v45 : Int64, v45 = ((31 * y1) + (Int32.toInt64 v34)) → (vp_in x3 3 ∧ (∀ v62 : Int64, v62 = ((31 * v45) + (Int32.toInt64 (ms_I u (ms_at E (ms_at E o 9) 2) (Int32.toNatClampNeg x3)))) → (∃ n66, wp_X10_checksum_66 E o post (wp_X10_checksum_8 E o post n) n66 u v62 x3 v34 0))))))
set_option maxHeartbeats 4000000 in
set_option maxRecDepth 100000 in
theorem c_X10_checksum_8 {p : Program} {l : Launch} {e : Env} {s : State} {m : MethodId} {args : Array Value} {below : List Frame} {meth : Method} {c : Code} {G : va_G} {cy : Nat → ClassId} {A : Nat → Prop} {L : Nat → Nat} {E : ms_En} (C : ms_Cx p m c cX10_checksum 6 s args (Cond.code ⟨"CensusWalk", "checksum", "()J"⟩ prog_1_method_35_code 6 (some .long)) "CensusWalk" G cy A) (hr : meth.sig.returnType = (some .long)) (hlocks : meth.locks = false) (hE : ms_WT E) {o : Nat} {post : Int64 → ms_St → Prop}  (ho : ms_is E o 10)  : ∀ (n : Nat) (u : ms_St) (y1 : Int64) (x3 : Int32), wp_X10_checksum_8 E o post n u y1 x3 → ms_At p l e ({ frames := 7, cells := 0, slots := 0, locals := 165 } : Room) s m args below meth c 6 G cy A L 0 0 (ms_QL below args s G cy L E A post 0 0) E u 8 [(0, .ref (L o)), (1, .long y1), (3, .int x3)] [] := by
  intro n
  induction n with
  | zero =>
    intro u y1 x3  h
    exact absurd h id
  | succ n ih =>
    intro u y1 x3  h
    unfold wp_X10_checksum_8 at h
    refine a_iload_n C dX10_checksum_8 rfl 2 rfl rfl ?_
    refine a_aload_n C dX10_checksum_9 rfl 0 rfl rfl ?_
    refine g_10_3 C hE dX10_checksum_10 ho kw_2_153 rfl ?_
    have k10 : ms_is E (ms_at E o 3) 7 := ms_wt hE ho rfl (by decide)
    refine g_7_5 C hE dX10_checksum_13 k10 kw_1_189 rfl ?_
    have k13 : ms_is E (ms_at E (ms_at E o 3) 5) 9 := ms_wt hE k10 rfl (by decide)
    refine g_9_0 C dX10_checksum_16 k13 kw_1_142 rfl ?_
    refine a_icmp_ge (tgt := 129) C dX10_checksum_19 (by decide) rfl (fun hc => ?_) (fun hc => ?_)
    · replace h := h.1 hc
      refine a_iconst (v := 0) C dX10_checksum_129 (by decide) rfl ?_
      refine a_istore_n (lv' := [(0, .ref (L o)), (1, .long y1), (3, .int 0)]) C dX10_checksum_130 rfl (by decide) [1, 2, 0] rfl rfl ?_
      obtain ⟨n9, h⟩ := h
      exact c_X10_checksum_131 C hr hlocks hE ho  n9 u y1 0  h
    · replace h := h.2 hc
      refine a_aload_n C dX10_checksum_22 rfl 0 rfl rfl ?_
      refine g_10_3 C hE dX10_checksum_23 ho kw_2_153 rfl ?_
      refine g_7_5 C hE dX10_checksum_26 k10 kw_1_189 rfl ?_
      refine g_9_3 C hE dX10_checksum_29 k13 kw_1_151 rfl ?_
      have k29 : ms_is E (ms_at E (ms_at E (ms_at E o 3) 5) 3) 13 := ms_wt hE k13 rfl (by decide)
      have n29 : ms_N E (ms_at E (ms_at E (ms_at E o 3) 5) 3) = 3 := ms_wl hE k13 (by decide) (by decide) rfl
      refine a_iload_n C dX10_checksum_32 rfl 2 rfl rfl ?_
      obtain ⟨q33, h⟩ := h
      refine a_iald C dX10_checksum_33 k29 n29 q33 rfl ?_
      refine a_nmI (fun v34 e34 => ?_)
      replace h := h v34 e34
      refine a_istore (lv' := [(0, .ref (L o)), (1, .long y1), (3, .int x3), (4, .int v34)]) C dX10_checksum_34 (by decide) [1, 2, 3, 0] rfl rfl ?_
      refine a_ldc2 (v := 31) C dX10_checksum_36 kw_3_127 rfl ?_
      refine a_lload_n C dX10_checksum_39 rfl 1 rfl rfl ?_
      refine a_lmul C dX10_checksum_40 rfl ?_
      refine a_iload C dX10_checksum_41 3 rfl rfl ?_
      refine a_i2l C dX10_checksum_43 rfl ?_
      refine a_ladd C dX10_checksum_44 rfl ?_
      refine a_nmL (fun v45 e45 => ?_)
      replace h := h v45 e45
      refine a_lstore_n (lv' := [(0, .ref (L o)), (1, .long v45), (3, .int x3), (4, .int v34)]) C dX10_checksum_45 rfl (by decide) [1, 0, 2, 3] rfl rfl ?_
      refine a_ldc2 (v := 31) C dX10_checksum_46 kw_3_127 rfl ?_
      refine a_lload_n C dX10_checksum_49 rfl 1 rfl rfl ?_
      refine a_lmul C dX10_checksum_50 rfl ?_
      refine a_aload_n C dX10_checksum_51 rfl 0 rfl rfl ?_
      refine g_10_9 C hE dX10_checksum_52 ho kw_2_159 rfl ?_
      have k52 : ms_is E (ms_at E o 9) 4 := ms_wt hE ho rfl (by decide)
      refine g_4_2 C hE dX10_checksum_55 k52 kw_2_64 rfl ?_
      have k55 : ms_is E (ms_at E (ms_at E o 9) 2) 13 := ms_wt hE k52 rfl (by decide)
      have n55 : ms_N E (ms_at E (ms_at E o 9) 2) = 3 := ms_wl hE k52 (by decide) (by decide) rfl
      refine a_iload_n C dX10_checksum_58 rfl 2 rfl rfl ?_
      obtain ⟨q59, h⟩ := h
      refine a_iald C dX10_checksum_59 k55 n55 q59 rfl ?_
      refine a_i2l C dX10_checksum_60 rfl ?_
      refine a_ladd C dX10_checksum_61 rfl ?_
      refine a_nmL (fun v62 e62 => ?_)
      replace h := h v62 e62
      refine a_lstore_n (lv' := [(0, .ref (L o)), (1, .long v62), (3, .int x3), (4, .int v34)]) C dX10_checksum_62 rfl (by decide) [1, 0, 2, 3] rfl rfl ?_
      refine a_iconst (v := 0) C dX10_checksum_63 (by decide) rfl ?_
      refine a_istore (lv' := [(0, .ref (L o)), (1, .long v62), (3, .int x3), (4, .int v34), (5, .int 0)]) C dX10_checksum_64 (by decide) [1, 2, 3, 4, 0] rfl rfl ?_
      obtain ⟨n9, h⟩ := h
      exact c_X10_checksum_66 C hr hlocks hE ho ih n9 u v62 x3 v34 0  h
def wp_X10_checksum (E : ms_En) (u : ms_St) (o : Nat) (post : Int64 → ms_St → Prop) : Prop := wp_X10_refreshSimulation E u o (fun u1 => ∃ n8, wp_X10_checksum_8 E o post n8 u1 0 0)
set_option maxHeartbeats 4000000 in
set_option maxRecDepth 100000 in
theorem c_X10_checksum (l : Launch) (G : va_G) (cy : Nat → ClassId) (L : Nat → Nat) (E : ms_En) (hE : ms_WT E) (u : ms_St) (o : Nat) (ho : ms_is E o 10) (post : Int64 → ms_St → Prop) (h : wp_X10_checksum E u o post) : ms_MetL l ⟨"CensusWalk", "checksum", "()J"⟩ (Cond.code ⟨"CensusWalk", "checksum", "()J"⟩ prog_1_method_35_code 6 (some .long) :: lw_g) ({ frames := 7, cells := 0, slots := 0, locals := 165 } : Room) G cy L E [.ref (L o)] u post 0 0 := by
  refine ms_enterL (lv := [(0, .ref (L o))]) (by decide) (Nat.le_of_ble_eq_true rfl) rfl ?_
  intro p e s m args below meth c A C hr hlocks
  unfold wp_X10_checksum at h
  refine a_aload_n C dX10_checksum_0 rfl 0 rfl rfl ?_
  refine a_callVV C (c_X10_refreshSimulation l G cy L E hE u o ho _ h) ho rfl (by decide) kw_2_222 kw_2_224 kp_1 kw_1_1 kw_2_225 rfl rfl pd_X10_refreshSimulation ⟨(Nat.le_of_ble_eq_true rfl), (Nat.le_of_ble_eq_true rfl)⟩ dX10_checksum_1 rfl (Nat.le_of_ble_eq_true rfl) ⟨(Nat.le_of_ble_eq_true rfl), (Nat.le_of_ble_eq_true rfl)⟩ rfl (fun u1 h => ?_)
  refine a_lconst (v := 0) C dX10_checksum_4 (by decide) rfl ?_
  refine a_lstore_n (lv' := [(0, .ref (L o)), (1, .long 0)]) C dX10_checksum_5 rfl (by decide) [1, 0] rfl rfl ?_
  refine a_iconst (v := 0) C dX10_checksum_6 (by decide) rfl ?_
  refine a_istore_n (lv' := [(0, .ref (L o)), (1, .long 0), (3, .int 0)]) C dX10_checksum_7 rfl (by decide) [1, 2, 0] rfl rfl ?_
  obtain ⟨n9, h⟩ := h
  exact c_X10_checksum_8 C hr hlocks hE ho  n9 u1 0 0  h
