/-! CensusWalk$VisitExpression.clear()V -/
theorem pd_X8_clear : (⟨"CensusWalk$VisitExpression", "clear", "()V"⟩ : MethodName).cls = "CensusWalk$VisitExpression" ∧ (⟨"CensusWalk$VisitExpression", "clear", "()V"⟩ : MethodName).cls ≠ "java/lang/invoke/MethodHandle" ∧ (⟨"CensusWalk$VisitExpression", "clear", "()V"⟩ : MethodName).cls ≠ "java/lang/invoke/VarHandle" ∧ (parseMethodDescriptor (⟨"CensusWalk$VisitExpression", "clear", "()V"⟩ : MethodName).desc).map (fun d => d.parameters.length) = some 0 := by decide +kernel
def wp_X8_clear (E : ms_En) (u : ms_St) (o : Nat) (post : ms_St → Prop) : Prop := post (ms_sI u o 1 0)
set_option maxHeartbeats 4000000 in
set_option maxRecDepth 100000 in
theorem c_X8_clear (l : Launch) (G : va_G) (cy : Nat → ClassId) (L : Nat → Nat) (E : ms_En) (hE : ms_WT E) (u : ms_St) (o : Nat) (ho : ms_is E o 8) (post : ms_St → Prop) (h : wp_X8_clear E u o post) : ms_MetV l ⟨"CensusWalk$VisitExpression", "clear", "()V"⟩ (Cond.code ⟨"CensusWalk$VisitExpression", "clear", "()V"⟩ prog_10_method_2_code 1 none :: lw_g) ({ frames := 0, cells := 0, slots := 0, locals := 0 } : Room) G cy L E [.ref (L o)] u post 0 0 := by
  refine ms_enterV (lv := [(0, .ref (L o))]) (by decide) (Nat.le_of_ble_eq_true rfl) rfl ?_
  intro p e s m args below meth c A C hr hlocks
  unfold wp_X8_clear at h
  refine a_aload_n C dX8_clear_0 rfl 0 rfl rfl ?_
  refine a_iconst (v := 0) C dX8_clear_1 (by decide) rfl ?_
  refine s_8_1 C dX8_clear_2 ho kw_2_7 rfl ?_
  exact a_vret C dX8_clear_5 hr hlocks (Nat.le_of_ble_eq_true rfl) (Nat.le_of_ble_eq_true rfl) h

/-! CensusWalk$VisitExpression.add(I)V -/
theorem pd_X8_add : (⟨"CensusWalk$VisitExpression", "add", "(I)V"⟩ : MethodName).cls = "CensusWalk$VisitExpression" ∧ (⟨"CensusWalk$VisitExpression", "add", "(I)V"⟩ : MethodName).cls ≠ "java/lang/invoke/MethodHandle" ∧ (⟨"CensusWalk$VisitExpression", "add", "(I)V"⟩ : MethodName).cls ≠ "java/lang/invoke/VarHandle" ∧ (parseMethodDescriptor (⟨"CensusWalk$VisitExpression", "add", "(I)V"⟩ : MethodName).desc).map (fun d => d.parameters.length) = some 1 := by decide +kernel
def wp_X8_add_32 (E : ms_En) (o : Nat) (a1 : Int32) (post : ms_St → Prop)  (u : ms_St)  : Prop := post u
set_option maxHeartbeats 4000000 in
set_option maxRecDepth 100000 in
theorem c_X8_add_32 {p : Program} {l : Launch} {e : Env} {s : State} {m : MethodId} {args : Array Value} {below : List Frame} {meth : Method} {c : Code} {G : va_G} {cy : Nat → ClassId} {A : Nat → Prop} {L : Nat → Nat} {E : ms_En} (C : ms_Cx p m c cX8_add 2 s args (Cond.code ⟨"CensusWalk$VisitExpression", "add", "(I)V"⟩ prog_10_method_3_code 2 none) "CensusWalk$VisitExpression" G cy A) (hr : meth.sig.returnType = none) (hlocks : meth.locks = false) (hE : ms_WT E) {o : Nat} {a1 : Int32} {post : ms_St → Prop}  (ho : ms_is E o 8)  (u : ms_St)   (h : wp_X8_add_32 E o a1 post u ) : ms_At p l e ({ frames := 0, cells := 0, slots := 0, locals := 0 } : Room) s m args below meth c 2 G cy A L 0 0 (ms_QV below args s G cy L E A post 0 0) E u 32 [] [] := by
  unfold wp_X8_add_32 at h
  exact a_vret C dX8_add_32 hr hlocks (Nat.le_of_ble_eq_true rfl) (Nat.le_of_ble_eq_true rfl) h
def wp_X8_add (E : ms_En) (u : ms_St) (o : Nat) (a1 : Int32) (post : ms_St → Prop) : Prop := ((nI 900) ≤ (ms_I u o 1) → wp_X8_add_32 E o a1 post u) ∧ (¬ (nI 900) ≤ (ms_I u o 1) → vp_in (ms_I u o 1) 900 ∧ (∀ w29 : ms_St, w29 = (ms_sI (ms_sI u (ms_at E o 0) (Int32.toNatClampNeg (ms_I u o 1)) a1) o 1 ((ms_I (ms_sI u (ms_at E o 0) (Int32.toNatClampNeg (ms_I u o 1)) a1) o 1) + 1)) → (wp_X8_add_32 E o a1 post w29)))
set_option maxHeartbeats 4000000 in
set_option maxRecDepth 100000 in
theorem c_X8_add (l : Launch) (G : va_G) (cy : Nat → ClassId) (L : Nat → Nat) (E : ms_En) (hE : ms_WT E) (u : ms_St) (o : Nat) (a1 : Int32) (ho : ms_is E o 8) (post : ms_St → Prop) (h : wp_X8_add E u o a1 post) : ms_MetV l ⟨"CensusWalk$VisitExpression", "add", "(I)V"⟩ (Cond.code ⟨"CensusWalk$VisitExpression", "add", "(I)V"⟩ prog_10_method_3_code 2 none :: lw_g) ({ frames := 0, cells := 0, slots := 0, locals := 0 } : Room) G cy L E [.ref (L o), .int a1] u post 0 0 := by
  refine ms_enterV (lv := [(0, .ref (L o)), (1, .int a1)]) (by decide) (Nat.le_of_ble_eq_true rfl) rfl ?_
  intro p e s m args below meth c A C hr hlocks
  unfold wp_X8_add at h
  refine a_aload_n C dX8_add_0 rfl 0 rfl rfl ?_
  refine g_8_1 C dX8_add_1 ho kw_2_7 rfl ?_
  refine a_aload_n C dX8_add_4 rfl 0 rfl rfl ?_
  refine g_8_0 C hE dX8_add_5 ho kw_2_6 rfl ?_
  have k5 : ms_is E (ms_at E o 0) 13 := ms_wt hE ho rfl (by decide)
  have n5 : ms_N E (ms_at E o 0) = 900 := ms_wl hE ho (by decide) (by decide) rfl
  refine a_alen13 C dX8_add_8 k5 rfl ?_
  rw [n5]
  refine a_icmp_ge (tgt := 32) C dX8_add_9 (by decide) rfl (fun hc => ?_) (fun hc => ?_)
  · replace h := h.1 hc
    refine a_sub (lv' := []) [] rfl ?_
    exact c_X8_add_32 C hr hlocks hE ho  u  h
  · replace h := h.2 hc
    refine a_aload_n C dX8_add_12 rfl 0 rfl rfl ?_
    refine g_8_0 C hE dX8_add_13 ho kw_2_6 rfl ?_
    refine a_aload_n C dX8_add_16 rfl 0 rfl rfl ?_
    refine g_8_1 C dX8_add_17 ho kw_2_7 rfl ?_
    refine a_iload_n C dX8_add_20 rfl 1 rfl rfl ?_
    obtain ⟨q21, h⟩ := h
    refine a_iast C dX8_add_21 k5 n5 q21 rfl ?_
    refine a_aload_n C dX8_add_22 rfl 0 rfl rfl ?_
    refine a_dup C dX8_add_23 rfl rfl ?_
    refine g_8_1 C dX8_add_24 ho kw_2_7 rfl ?_
    refine a_iconst (v := 1) C dX8_add_27 (by decide) rfl ?_
    refine a_iadd C dX8_add_28 rfl ?_
    refine s_8_1 C dX8_add_29 ho kw_2_7 rfl ?_
    refine a_nmU (fun w29 e29 => ?_)
    replace h := h w29 e29
    refine a_sub (lv' := []) [] rfl ?_
    exact c_X8_add_32 C hr hlocks hE ho  w29  h

/-! CensusWalk$VisitExpression.operand(IIII)I -/
theorem pd_X8_operand : (⟨"CensusWalk$VisitExpression", "operand", "(IIII)I"⟩ : MethodName).cls ≠ "java/lang/invoke/MethodHandle" ∧ (⟨"CensusWalk$VisitExpression", "operand", "(IIII)I"⟩ : MethodName).cls ≠ "java/lang/invoke/VarHandle" ∧ (parseMethodDescriptor (⟨"CensusWalk$VisitExpression", "operand", "(IIII)I"⟩ : MethodName).desc).map (fun d => d.parameters.length) = some 4 := by decide +kernel
def wp_X8_operand_26 (E : ms_En) (a0 : Int32) (a1 : Int32) (a2 : Int32) (a3 : Int32) (post : Int32 → ms_St → Prop)  (u : ms_St) (z0 : Int32) : Prop := post z0 u
set_option maxHeartbeats 4000000 in
set_option maxRecDepth 100000 in
theorem c_X8_operand_26 {p : Program} {l : Launch} {e : Env} {s : State} {m : MethodId} {args : Array Value} {below : List Frame} {meth : Method} {c : Code} {G : va_G} {cy : Nat → ClassId} {A : Nat → Prop} {L : Nat → Nat} {E : ms_En} (C : ms_Cx p m c cX8_operand 4 s args (Cond.code ⟨"CensusWalk$VisitExpression", "operand", "(IIII)I"⟩ prog_10_method_5_code 4 (some .int)) "CensusWalk$VisitExpression" G cy A) (hr : meth.sig.returnType = (some .int)) (hlocks : meth.locks = false) (hE : ms_WT E) {a0 : Int32} {a1 : Int32} {a2 : Int32} {a3 : Int32} {post : Int32 → ms_St → Prop}    (u : ms_St) (z0 : Int32)  (h : wp_X8_operand_26 E a0 a1 a2 a3 post u z0) : ms_At p l e ({ frames := 0, cells := 0, slots := 0, locals := 0 } : Room) s m args below meth c 4 G cy A L 0 0 (ms_QI below args s G cy L E A post 0 0) E u 26 [] [.int z0] := by
  unfold wp_X8_operand_26 at h
  exact a_iret C dX8_operand_26 hr hlocks (Nat.le_of_ble_eq_true rfl) (Nat.le_of_ble_eq_true rfl) h
def wp_X8_operand (E : ms_En) (u : ms_St) (a0 : Int32) (a1 : Int32) (a2 : Int32) (a3 : Int32) (post : Int32 → ms_St → Prop) : Prop := (a0 = (-1) → post a1 u) ∧ (¬ a0 = (-1) → (a0 = (-2) → post a2 u) ∧ (¬ a0 = (-2) → (a0 = (-3) → wp_X8_operand_26 E a0 a1 a2 a3 post u a3) ∧ (¬ a0 = (-3) → wp_X8_operand_26 E a0 a1 a2 a3 post u a0)))
set_option maxHeartbeats 4000000 in
set_option maxRecDepth 100000 in
theorem c_X8_operand (l : Launch) (G : va_G) (cy : Nat → ClassId) (L : Nat → Nat) (E : ms_En) (hE : ms_WT E) (u : ms_St) (a0 : Int32) (a1 : Int32) (a2 : Int32) (a3 : Int32)  (post : Int32 → ms_St → Prop) (h : wp_X8_operand E u a0 a1 a2 a3 post) : ms_MetI l ⟨"CensusWalk$VisitExpression", "operand", "(IIII)I"⟩ (Cond.code ⟨"CensusWalk$VisitExpression", "operand", "(IIII)I"⟩ prog_10_method_5_code 4 (some .int) :: lw_g) ({ frames := 0, cells := 0, slots := 0, locals := 0 } : Room) G cy L E [.int a0, .int a1, .int a2, .int a3] u post 0 0 := by
  refine ms_enterI (lv := [(0, .int a0), (1, .int a1), (2, .int a2), (3, .int a3)]) (by decide) (Nat.le_of_ble_eq_true rfl) rfl ?_
  intro p e s m args below meth c A C hr hlocks
  unfold wp_X8_operand at h
  refine a_iload_n C dX8_operand_0 rfl 0 rfl rfl ?_
  refine a_iconst (v := (-1)) C dX8_operand_1 (by decide) rfl ?_
  refine a_icmp_ne (tgt := 7) C dX8_operand_2 (by decide) rfl (fun hc => ?_) (fun hc => ?_)
  · replace h := h.2 hc
    refine a_iload_n C dX8_operand_7 rfl 0 rfl rfl ?_
    refine a_bipush (v := (-2)) C dX8_operand_8 (by decide) rfl ?_
    refine a_icmp_ne (tgt := 15) C dX8_operand_10 (by decide) rfl (fun hc => ?_) (fun hc => ?_)
    · replace h := h.2 hc
      refine a_iload_n C dX8_operand_15 rfl 0 rfl rfl ?_
      refine a_bipush (v := (-3)) C dX8_operand_16 (by decide) rfl ?_
      refine a_icmp_ne (tgt := 25) C dX8_operand_18 (by decide) rfl (fun hc => ?_) (fun hc => ?_)
      · replace h := h.2 hc
        refine a_iload_n C dX8_operand_25 rfl 0 rfl rfl ?_
        refine a_sub (lv' := []) [] rfl ?_
        exact c_X8_operand_26 C hr hlocks hE   u a0  h
      · replace h := h.1 hc
        refine a_iload_n C dX8_operand_21 rfl 3 rfl rfl ?_
        refine a_goto (tgt := 26) C dX8_operand_22 (by decide) ?_
        refine a_sub (lv' := []) [] rfl ?_
        exact c_X8_operand_26 C hr hlocks hE   u a3  h
    · replace h := h.1 hc
      refine a_iload_n C dX8_operand_13 rfl 2 rfl rfl ?_
      exact a_iret C dX8_operand_14 hr hlocks (Nat.le_of_ble_eq_true rfl) (Nat.le_of_ble_eq_true rfl) h
  · replace h := h.1 hc
    refine a_iload_n C dX8_operand_5 rfl 1 rfl rfl ?_
    exact a_iret C dX8_operand_6 hr hlocks (Nat.le_of_ble_eq_true rfl) (Nat.le_of_ble_eq_true rfl) h

/-! CensusWalk$VisitExpression.combine(III)I -/
theorem pd_X8_combine : (⟨"CensusWalk$VisitExpression", "combine", "(III)I"⟩ : MethodName).cls ≠ "java/lang/invoke/MethodHandle" ∧ (⟨"CensusWalk$VisitExpression", "combine", "(III)I"⟩ : MethodName).cls ≠ "java/lang/invoke/VarHandle" ∧ (parseMethodDescriptor (⟨"CensusWalk$VisitExpression", "combine", "(III)I"⟩ : MethodName).desc).map (fun d => d.parameters.length) = some 3 := by decide +kernel
def wp_X8_combine_56 (E : ms_En) (a0 : Int32) (a1 : Int32) (a2 : Int32) (post : Int32 → ms_St → Prop)  (u : ms_St) (y3 : Int64) : Prop := post (Int64.toInt32 (if (if 1000000 < y3 then 1000000 else y3) < (-1000000) then (-1000000) else (if 1000000 < y3 then 1000000 else y3))) u
set_option maxHeartbeats 4000000 in
set_option maxRecDepth 100000 in
theorem c_X8_combine_56 {p : Program} {l : Launch} {e : Env} {s : State} {m : MethodId} {args : Array Value} {below : List Frame} {meth : Method} {c : Code} {G : va_G} {cy : Nat → ClassId} {A : Nat → Prop} {L : Nat → Nat} {E : ms_En} (C : ms_Cx p m c cX8_combine 5 s args (Cond.code ⟨"CensusWalk$VisitExpression", "combine", "(III)I"⟩ prog_10_method_6_code 5 (some .int)) "CensusWalk$VisitExpression" G cy A) (hr : meth.sig.returnType = (some .int)) (hlocks : meth.locks = false) (hE : ms_WT E) {a0 : Int32} {a1 : Int32} {a2 : Int32} {post : Int32 → ms_St → Prop}    (u : ms_St) (y3 : Int64)  (h : wp_X8_combine_56 E a0 a1 a2 post u y3) : ms_At p l e ({ frames := 1, cells := 0, slots := 0, locals := 30 } : Room) s m args below meth c 5 G cy A L 0 0 (ms_QI below args s G cy L E A post 0 0) E u 56 [(3, .long y3)] [] := by
  unfold wp_X8_combine_56 at h
  refine a_ldc2 (v := (-1000000)) C dX8_combine_56 kw_4_127 rfl ?_
  refine a_lload_n C dX8_combine_59 rfl 0 rfl rfl ?_
  refine a_ldc2 (v := 1000000) C dX8_combine_60 kw_4_128 rfl ?_
  refine a_mmin_long C dX8_combine_63 kw_4_129 kw_4_130 kw_1_17 kw_4_131 (Nat.le_of_ble_eq_true rfl) (Nat.le_of_ble_eq_true rfl) (Nat.le_of_ble_eq_true rfl) (Nat.le_of_ble_eq_true rfl) rfl ?_
  refine a_mmax_long C dX8_combine_66 kw_4_132 kw_4_133 kw_1_17 kw_4_134 (Nat.le_of_ble_eq_true rfl) (Nat.le_of_ble_eq_true rfl) (Nat.le_of_ble_eq_true rfl) (Nat.le_of_ble_eq_true rfl) rfl ?_
  refine a_l2i C dX8_combine_69 rfl ?_
  exact a_iret C dX8_combine_70 hr hlocks (Nat.le_of_ble_eq_true rfl) (Nat.le_of_ble_eq_true rfl) h
def wp_X8_combine_55 (E : ms_En) (a0 : Int32) (a1 : Int32) (a2 : Int32) (post : Int32 → ms_St → Prop)  (u : ms_St) (z0 : Int64) : Prop := wp_X8_combine_56 E a0 a1 a2 post u z0
set_option maxHeartbeats 4000000 in
set_option maxRecDepth 100000 in
theorem c_X8_combine_55 {p : Program} {l : Launch} {e : Env} {s : State} {m : MethodId} {args : Array Value} {below : List Frame} {meth : Method} {c : Code} {G : va_G} {cy : Nat → ClassId} {A : Nat → Prop} {L : Nat → Nat} {E : ms_En} (C : ms_Cx p m c cX8_combine 5 s args (Cond.code ⟨"CensusWalk$VisitExpression", "combine", "(III)I"⟩ prog_10_method_6_code 5 (some .int)) "CensusWalk$VisitExpression" G cy A) (hr : meth.sig.returnType = (some .int)) (hlocks : meth.locks = false) (hE : ms_WT E) {a0 : Int32} {a1 : Int32} {a2 : Int32} {post : Int32 → ms_St → Prop}    (u : ms_St) (z0 : Int64)  (h : wp_X8_combine_55 E a0 a1 a2 post u z0) : ms_At p l e ({ frames := 1, cells := 0, slots := 0, locals := 30 } : Room) s m args below meth c 5 G cy A L 0 0 (ms_QI below args s G cy L E A post 0 0) E u 55 [] [.long z0] := by
  unfold wp_X8_combine_55 at h
  refine a_lstore_n (lv' := [(3, .long z0)]) C dX8_combine_55 rfl (by decide) [0] rfl rfl ?_
  exact c_X8_combine_56 C hr hlocks hE   u z0  h
def wp_X8_combine (E : ms_En) (u : ms_St) (a0 : Int32) (a1 : Int32) (a2 : Int32) (post : Int32 → ms_St → Prop) : Prop := (a0 = (-4) → ∀ v10 : Int64, v10 = (Int32.toInt64 (a1 + a2)) → (wp_X8_combine_56 E a0 a1 a2 post u v10)) ∧ (¬ a0 = (-4) → (a0 = (-5) → ∀ v24 : Int64, v24 = (Int32.toInt64 (a1 - a2)) → (wp_X8_combine_56 E a0 a1 a2 post u v24)) ∧ (¬ a0 = (-5) → (a0 = (-6) → ∀ v39 : Int64, v39 = ((Int32.toInt64 a1) * (Int32.toInt64 a2)) → (wp_X8_combine_56 E a0 a1 a2 post u v39)) ∧ (¬ a0 = (-6) → (a2 = 0 → wp_X8_combine_55 E a0 a1 a2 post u 0) ∧ (¬ a2 = 0 → ¬ a2 = 0 ∧ (wp_X8_combine_55 E a0 a1 a2 post u (Int32.toInt64 (a1 / a2)))))))
set_option maxHeartbeats 4000000 in
set_option maxRecDepth 100000 in
theorem c_X8_combine (l : Launch) (G : va_G) (cy : Nat → ClassId) (L : Nat → Nat) (E : ms_En) (hE : ms_WT E) (u : ms_St) (a0 : Int32) (a1 : Int32) (a2 : Int32)  (post : Int32 → ms_St → Prop) (h : wp_X8_combine E u a0 a1 a2 post) : ms_MetI l ⟨"CensusWalk$VisitExpression", "combine", "(III)I"⟩ (Cond.code ⟨"CensusWalk$VisitExpression", "combine", "(III)I"⟩ prog_10_method_6_code 5 (some .int) :: lw_g) ({ frames := 1, cells := 0, slots := 0, locals := 30 } : Room) G cy L E [.int a0, .int a1, .int a2] u post 0 0 := by
  refine ms_enterI (lv := [(0, .int a0), (1, .int a1), (2, .int a2)]) (by decide) (Nat.le_of_ble_eq_true rfl) rfl ?_
  intro p e s m args below meth c A C hr hlocks
  unfold wp_X8_combine at h
  refine a_iload_n C dX8_combine_0 rfl 0 rfl rfl ?_
  refine a_bipush (v := (-4)) C dX8_combine_1 (by decide) rfl ?_
  refine a_icmp_ne (tgt := 14) C dX8_combine_3 (by decide) rfl (fun hc => ?_) (fun hc => ?_)
  · replace h := h.2 hc
    refine a_iload_n C dX8_combine_14 rfl 0 rfl rfl ?_
    refine a_bipush (v := (-5)) C dX8_combine_15 (by decide) rfl ?_
    refine a_icmp_ne (tgt := 28) C dX8_combine_17 (by decide) rfl (fun hc => ?_) (fun hc => ?_)
    · replace h := h.2 hc
      refine a_iload_n C dX8_combine_28 rfl 0 rfl rfl ?_
      refine a_bipush (v := (-6)) C dX8_combine_29 (by decide) rfl ?_
      refine a_icmp_ne (tgt := 43) C dX8_combine_31 (by decide) rfl (fun hc => ?_) (fun hc => ?_)
      · replace h := h.2 hc
        refine a_iload_n C dX8_combine_43 rfl 2 rfl rfl ?_
        refine a_if_ne (tgt := 51) C dX8_combine_44 (by decide) rfl (fun hc => ?_) (fun hc => ?_)
        · replace h := h.2 hc
          refine a_iload_n C dX8_combine_51 rfl 1 rfl rfl ?_
          refine a_iload_n C dX8_combine_52 rfl 2 rfl rfl ?_
          obtain ⟨q53, h⟩ := h
          refine a_idiv C dX8_combine_53 q53 rfl ?_
          refine a_i2l C dX8_combine_54 rfl ?_
          refine a_sub (lv' := []) [] rfl ?_
          exact c_X8_combine_55 C hr hlocks hE   u (Int32.toInt64 (a1 / a2))  h
        · replace h := h.1 hc
          refine a_lconst (v := 0) C dX8_combine_47 (by decide) rfl ?_
          refine a_goto (tgt := 55) C dX8_combine_48 (by decide) ?_
          refine a_sub (lv' := []) [] rfl ?_
          exact c_X8_combine_55 C hr hlocks hE   u 0  h
      · replace h := h.1 hc
        refine a_iload_n C dX8_combine_34 rfl 1 rfl rfl ?_
        refine a_i2l C dX8_combine_35 rfl ?_
        refine a_iload_n C dX8_combine_36 rfl 2 rfl rfl ?_
        refine a_i2l C dX8_combine_37 rfl ?_
        refine a_lmul C dX8_combine_38 rfl ?_
        refine a_nmL (fun v39 e39 => ?_)
        replace h := h v39 e39
        refine a_lstore_n (lv' := [(0, .int a0), (1, .int a1), (2, .int a2), (3, .long v39)]) C dX8_combine_39 rfl (by decide) [1, 2, 3, 0] rfl rfl ?_
        refine a_goto (tgt := 56) C dX8_combine_40 (by decide) ?_
        refine a_sub (lv' := [(3, .long v39)]) [3] rfl ?_
        exact c_X8_combine_56 C hr hlocks hE   u v39  h
    · replace h := h.1 hc
      refine a_iload_n C dX8_combine_20 rfl 1 rfl rfl ?_
      refine a_iload_n C dX8_combine_21 rfl 2 rfl rfl ?_
      refine a_isub C dX8_combine_22 rfl ?_
      refine a_i2l C dX8_combine_23 rfl ?_
      refine a_nmL (fun v24 e24 => ?_)
      replace h := h v24 e24
      refine a_lstore_n (lv' := [(0, .int a0), (1, .int a1), (2, .int a2), (3, .long v24)]) C dX8_combine_24 rfl (by decide) [1, 2, 3, 0] rfl rfl ?_
      refine a_goto (tgt := 56) C dX8_combine_25 (by decide) ?_
      refine a_sub (lv' := [(3, .long v24)]) [3] rfl ?_
      exact c_X8_combine_56 C hr hlocks hE   u v24  h
  · replace h := h.1 hc
    refine a_iload_n C dX8_combine_6 rfl 1 rfl rfl ?_
    refine a_iload_n C dX8_combine_7 rfl 2 rfl rfl ?_
    refine a_iadd C dX8_combine_8 rfl ?_
    refine a_i2l C dX8_combine_9 rfl ?_
    refine a_nmL (fun v10 e10 => ?_)
    replace h := h v10 e10
    refine a_lstore_n (lv' := [(0, .int a0), (1, .int a1), (2, .int a2), (3, .long v10)]) C dX8_combine_10 rfl (by decide) [1, 2, 3, 0] rfl rfl ?_
    refine a_goto (tgt := 56) C dX8_combine_11 (by decide) ?_
    refine a_sub (lv' := [(3, .long v10)]) [3] rfl ?_
    exact c_X8_combine_56 C hr hlocks hE   u v10  h

/-! CensusWalk$VisitExpression.minutes(III)I -/
theorem pd_X8_minutes : (⟨"CensusWalk$VisitExpression", "minutes", "(III)I"⟩ : MethodName).cls = "CensusWalk$VisitExpression" ∧ (⟨"CensusWalk$VisitExpression", "minutes", "(III)I"⟩ : MethodName).cls ≠ "java/lang/invoke/MethodHandle" ∧ (⟨"CensusWalk$VisitExpression", "minutes", "(III)I"⟩ : MethodName).cls ≠ "java/lang/invoke/VarHandle" ∧ (parseMethodDescriptor (⟨"CensusWalk$VisitExpression", "minutes", "(III)I"⟩ : MethodName).desc).map (fun d => d.parameters.length) = some 3 := by decide +kernel
def wp_X8_minutes_111 (E : ms_En) (o : Nat) (a1 : Int32) (a2 : Int32) (a3 : Int32) (post : Int32 → ms_St → Prop) (k16 : ms_St → Int32 → Int32 → Prop) (u : ms_St) (x4 : Int32) (x5 : Int32) : Prop := k16 u x4 (x5 + 1)
set_option maxHeartbeats 4000000 in
set_option maxRecDepth 100000 in
theorem c_X8_minutes_111 {p : Program} {l : Launch} {e : Env} {s : State} {m : MethodId} {args : Array Value} {below : List Frame} {meth : Method} {c : Code} {G : va_G} {cy : Nat → ClassId} {A : Nat → Prop} {L : Nat → Nat} {E : ms_En} (C : ms_Cx p m c cX8_minutes 7 s args (Cond.code ⟨"CensusWalk$VisitExpression", "minutes", "(III)I"⟩ prog_10_method_4_code 7 (some .int)) "CensusWalk$VisitExpression" G cy A) (hr : meth.sig.returnType = (some .int)) (hlocks : meth.locks = false) (hE : ms_WT E) {o : Nat} {a1 : Int32} {a2 : Int32} {a3 : Int32} {post : Int32 → ms_St → Prop} {k16 : ms_St → Int32 → Int32 → Prop} (ho : ms_is E o 8) (hk16 : ∀ (u : ms_St) (x4 : Int32) (x5 : Int32), k16 u x4 x5 → ms_At p l e ({ frames := 2, cells := 0, slots := 0, locals := 54 } : Room) s m args below meth c 7 G cy A L 0 0 (ms_QI below args s G cy L E A post 0 0) E u 16 [(0, .ref (L o)), (1, .int a1), (2, .int a2), (3, .int a3), (4, .int x4), (5, .int x5)] []) (u : ms_St) (x4 : Int32) (x5 : Int32)  (h : wp_X8_minutes_111 E o a1 a2 a3 post k16 u x4 x5) : ms_At p l e ({ frames := 2, cells := 0, slots := 0, locals := 54 } : Room) s m args below meth c 7 G cy A L 0 0 (ms_QI below args s G cy L E A post 0 0) E u 111 [(0, .ref (L o)), (1, .int a1), (2, .int a2), (3, .int a3), (4, .int x4), (5, .int x5)] [] := by
  unfold wp_X8_minutes_111 at h
  refine a_iinc (lv' := [(0, .ref (L o)), (1, .int a1), (2, .int a2), (3, .int a3), (4, .int x4), (5, .int (x5 + 1))]) (v := (x5 + 1)) C dX8_minutes_111 5 rfl (congrArg (fun z => x5 + z) (by decide)) (by decide) [1, 2, 3, 4, 5, 0] rfl rfl ?_
  refine a_goto (tgt := 16) C dX8_minutes_114 (by decide) ?_
  exact hk16 u x4 (x5 + 1)  h
def wp_X8_minutes_16 (E : ms_En) (o : Nat) (a1 : Int32) (a2 : Int32) (a3 : Int32) (post : Int32 → ms_St → Prop)  : Nat → ms_St → Int32 → Int32 → Prop
  | 0 => fun _ _ _ => False
  | n + 1 => fun u x4 x5 => ((ms_I u o 1) ≤ x5 → vp_in 0 16 ∧ (post (if 1 < (if 240 < (ms_I u (ms_at E o 2) (Int32.toNatClampNeg 0)) then 240 else (ms_I u (ms_at E o 2) (Int32.toNatClampNeg 0))) then (if 240 < (ms_I u (ms_at E o 2) (Int32.toNatClampNeg 0)) then 240 else (ms_I u (ms_at E o 2) (Int32.toNatClampNeg 0))) else 1) u)) ∧ (¬ (ms_I u o 1) ≤ x5 → vp_in x5 900 ∧ (∀ v32 : Int32, v32 = (ms_I u (ms_at E o 0) (Int32.toNatClampNeg x5)) → (((-4) < v32 → ((nI 16) ≤ x4 → wp_X8_minutes_111 E o a1 a2 a3 post (wp_X8_minutes_16 E o a1 a2 a3 post n) u x4 x5) ∧ (¬ (nI 16) ≤ x4 → wp_X8_operand E u v32 a1 a2 a3 (fun r104 u104 => vp_in x4 16 ∧ (wp_X8_minutes_111 E o a1 a2 a3 post (wp_X8_minutes_16 E o a1 a2 a3 post n) (ms_sI u104 (ms_at E o 2) (Int32.toNatClampNeg x4) r104) (x4 + 1) x5)))) ∧ (¬ (-4) < v32 → (x4 < 2 → wp_X8_minutes_111 E o a1 a2 a3 post (wp_X8_minutes_16 E o a1 a2 a3 post n) u x4 x5) ∧ (¬ x4 < 2 → vp_in ((x4 + (-1)) - 1) 16 ∧ (vp_in (x4 + (-1)) 16 ∧ (wp_X8_combine E u v32 (ms_I u (ms_at E o 2) (Int32.toNatClampNeg ((x4 + (-1)) - 1))) (ms_I u (ms_at E o 2) (Int32.toNatClampNeg (x4 + (-1)))) (fun r76 u76 => vp_in ((x4 + (-1)) - 1) 16 ∧ (wp_X8_minutes_111 E o a1 a2 a3 post (wp_X8_minutes_16 E o a1 a2 a3 post n) (ms_sI u76 (ms_at E o 2) (Int32.toNatClampNeg ((x4 + (-1)) - 1)) r76) (x4 + (-1)) x5)))))))))
set_option maxHeartbeats 4000000 in
set_option maxRecDepth 100000 in
theorem c_X8_minutes_16 {p : Program} {l : Launch} {e : Env} {s : State} {m : MethodId} {args : Array Value} {below : List Frame} {meth : Method} {c : Code} {G : va_G} {cy : Nat → ClassId} {A : Nat → Prop} {L : Nat → Nat} {E : ms_En} (C : ms_Cx p m c cX8_minutes 7 s args (Cond.code ⟨"CensusWalk$VisitExpression", "minutes", "(III)I"⟩ prog_10_method_4_code 7 (some .int)) "CensusWalk$VisitExpression" G cy A) (hr : meth.sig.returnType = (some .int)) (hlocks : meth.locks = false) (hE : ms_WT E) {o : Nat} {a1 : Int32} {a2 : Int32} {a3 : Int32} {post : Int32 → ms_St → Prop}  (ho : ms_is E o 8)  : ∀ (n : Nat) (u : ms_St) (x4 : Int32) (x5 : Int32), wp_X8_minutes_16 E o a1 a2 a3 post n u x4 x5 → ms_At p l e ({ frames := 2, cells := 0, slots := 0, locals := 54 } : Room) s m args below meth c 7 G cy A L 0 0 (ms_QI below args s G cy L E A post 0 0) E u 16 [(0, .ref (L o)), (1, .int a1), (2, .int a2), (3, .int a3), (4, .int x4), (5, .int x5)] [] := by
  intro n
  induction n with
  | zero =>
    intro u x4 x5  h
    exact absurd h id
  | succ n ih =>
    intro u x4 x5  h
    unfold wp_X8_minutes_16 at h
    refine a_iload C dX8_minutes_16 5 rfl rfl ?_
    refine a_aload_n C dX8_minutes_18 rfl 0 rfl rfl ?_
    refine g_8_1 C dX8_minutes_19 ho kw_2_7 rfl ?_
    refine a_icmp_ge (tgt := 117) C dX8_minutes_22 (by decide) rfl (fun hc => ?_) (fun hc => ?_)
    · replace h := h.1 hc
      refine a_iconst (v := 1) C dX8_minutes_117 (by decide) rfl ?_
      refine a_aload_n C dX8_minutes_118 rfl 0 rfl rfl ?_
      refine g_8_2 C hE dX8_minutes_119 ho kw_2_8 rfl ?_
      have k119 : ms_is E (ms_at E o 2) 13 := ms_wt hE ho rfl (by decide)
      have n119 : ms_N E (ms_at E o 2) = 16 := ms_wl hE ho (by decide) (by decide) rfl
      refine a_iconst (v := 0) C dX8_minutes_122 (by decide) rfl ?_
      obtain ⟨q123, h⟩ := h
      refine a_iald C dX8_minutes_123 k119 n119 q123 rfl ?_
      refine a_sipush (v := 240) C dX8_minutes_124 (by decide) rfl ?_
      refine a_mmin C dX8_minutes_127 kw_4_138 kw_3_47 kw_1_17 kw_3_48 (Nat.le_of_ble_eq_true rfl) (Nat.le_of_ble_eq_true rfl) (Nat.le_of_ble_eq_true rfl) (Nat.le_of_ble_eq_true rfl) rfl ?_
      refine a_mmax C dX8_minutes_130 kw_4_139 kw_3_61 kw_1_17 kw_3_62 (Nat.le_of_ble_eq_true rfl) (Nat.le_of_ble_eq_true rfl) (Nat.le_of_ble_eq_true rfl) (Nat.le_of_ble_eq_true rfl) rfl ?_
      exact a_iret C dX8_minutes_133 hr hlocks (Nat.le_of_ble_eq_true rfl) (Nat.le_of_ble_eq_true rfl) h
    · replace h := h.2 hc
      refine a_aload_n C dX8_minutes_25 rfl 0 rfl rfl ?_
      refine g_8_0 C hE dX8_minutes_26 ho kw_2_6 rfl ?_
      have k26 : ms_is E (ms_at E o 0) 13 := ms_wt hE ho rfl (by decide)
      have n26 : ms_N E (ms_at E o 0) = 900 := ms_wl hE ho (by decide) (by decide) rfl
      refine a_iload C dX8_minutes_29 5 rfl rfl ?_
      obtain ⟨q31, h⟩ := h
      refine a_iald C dX8_minutes_31 k26 n26 q31 rfl ?_
      refine a_nmI (fun v32 e32 => ?_)
      replace h := h v32 e32
      refine a_istore (lv' := [(0, .ref (L o)), (1, .int a1), (2, .int a2), (3, .int a3), (4, .int x4), (5, .int x5), (6, .int v32)]) C dX8_minutes_32 (by decide) [1, 2, 3, 4, 5, 6, 0] rfl rfl ?_
      refine a_iload C dX8_minutes_34 6 rfl rfl ?_
      refine a_bipush (v := (-4)) C dX8_minutes_36 (by decide) rfl ?_
      refine a_icmp_gt (tgt := 83) C dX8_minutes_38 (by decide) rfl (fun hc => ?_) (fun hc => ?_)
      · replace h := h.1 hc
        refine a_iload C dX8_minutes_83 4 rfl rfl ?_
        refine a_aload_n C dX8_minutes_85 rfl 0 rfl rfl ?_
        refine g_8_2 C hE dX8_minutes_86 ho kw_2_8 rfl ?_
        have k86 : ms_is E (ms_at E o 2) 13 := ms_wt hE ho rfl (by decide)
        have n86 : ms_N E (ms_at E o 2) = 16 := ms_wl hE ho (by decide) (by decide) rfl
        refine a_alen13 C dX8_minutes_89 k86 rfl ?_
        rw [n86]
        refine a_icmp_ge (tgt := 111) C dX8_minutes_90 (by decide) rfl (fun hc => ?_) (fun hc => ?_)
        · replace h := h.1 hc
          refine a_sub (lv' := [(0, .ref (L o)), (1, .int a1), (2, .int a2), (3, .int a3), (4, .int x4), (5, .int x5)]) [0, 1, 2, 3, 4, 5] rfl ?_
          exact c_X8_minutes_111 C hr hlocks hE ho ih u x4 x5  h
        · replace h := h.2 hc
          refine a_aload_n C dX8_minutes_93 rfl 0 rfl rfl ?_
          refine g_8_2 C hE dX8_minutes_94 ho kw_2_8 rfl ?_
          refine a_iload C dX8_minutes_97 4 rfl rfl ?_
          refine a_iload C dX8_minutes_99 6 rfl rfl ?_
          refine a_iload_n C dX8_minutes_101 rfl 1 rfl rfl ?_
          refine a_iload_n C dX8_minutes_102 rfl 2 rfl rfl ?_
          refine a_iload_n C dX8_minutes_103 rfl 3 rfl rfl ?_
          refine a_callSI C (c_X8_operand l G cy L E hE u v32 a1 a2 a3  _ h) kw_4_135 kw_4_136 kw_1_8 kw_4_137 rfl rfl pd_X8_operand ⟨(Nat.le_of_ble_eq_true rfl), (Nat.le_of_ble_eq_true rfl)⟩ dX8_minutes_104 rfl (Nat.le_of_ble_eq_true rfl) ⟨(Nat.le_of_ble_eq_true rfl), (Nat.le_of_ble_eq_true rfl)⟩ rfl (fun r104 u104 h => ?_)
          obtain ⟨q107, h⟩ := h
          refine a_iast C dX8_minutes_107 k86 n86 q107 rfl ?_
          refine a_iinc (lv' := [(0, .ref (L o)), (1, .int a1), (2, .int a2), (3, .int a3), (4, .int (x4 + 1)), (5, .int x5), (6, .int v32)]) (v := (x4 + 1)) C dX8_minutes_108 4 rfl (congrArg (fun z => x4 + z) (by decide)) (by decide) [1, 2, 3, 4, 0, 5, 6] rfl rfl ?_
          refine a_sub (lv' := [(0, .ref (L o)), (1, .int a1), (2, .int a2), (3, .int a3), (4, .int (x4 + 1)), (5, .int x5)]) [0, 1, 2, 3, 4, 5] rfl ?_
          exact c_X8_minutes_111 C hr hlocks hE ho ih (ms_sI u104 (ms_at E o 2) (Int32.toNatClampNeg x4) r104) (x4 + 1) x5  h
      · replace h := h.2 hc
        refine a_iload C dX8_minutes_41 4 rfl rfl ?_
        refine a_iconst (v := 2) C dX8_minutes_43 (by decide) rfl ?_
        refine a_icmp_lt (tgt := 111) C dX8_minutes_44 (by decide) rfl (fun hc => ?_) (fun hc => ?_)
        · replace h := h.1 hc
          refine a_sub (lv' := [(0, .ref (L o)), (1, .int a1), (2, .int a2), (3, .int a3), (4, .int x4), (5, .int x5)]) [0, 1, 2, 3, 4, 5] rfl ?_
          exact c_X8_minutes_111 C hr hlocks hE ho ih u x4 x5  h
        · replace h := h.2 hc
          refine a_iinc (lv' := [(0, .ref (L o)), (1, .int a1), (2, .int a2), (3, .int a3), (4, .int (x4 + (-1))), (5, .int x5), (6, .int v32)]) (v := (x4 + (-1))) C dX8_minutes_47 4 rfl (congrArg (fun z => x4 + z) (by decide)) (by decide) [1, 2, 3, 4, 0, 5, 6] rfl rfl ?_
          refine a_aload_n C dX8_minutes_50 rfl 0 rfl rfl ?_
          refine g_8_2 C hE dX8_minutes_51 ho kw_2_8 rfl ?_
          have k51 : ms_is E (ms_at E o 2) 13 := ms_wt hE ho rfl (by decide)
          have n51 : ms_N E (ms_at E o 2) = 16 := ms_wl hE ho (by decide) (by decide) rfl
          refine a_iload C dX8_minutes_54 4 rfl rfl ?_
          refine a_iconst (v := 1) C dX8_minutes_56 (by decide) rfl ?_
          refine a_isub C dX8_minutes_57 rfl ?_
          refine a_iload C dX8_minutes_58 6 rfl rfl ?_
          refine a_aload_n C dX8_minutes_60 rfl 0 rfl rfl ?_
          refine g_8_2 C hE dX8_minutes_61 ho kw_2_8 rfl ?_
          refine a_iload C dX8_minutes_64 4 rfl rfl ?_
          refine a_iconst (v := 1) C dX8_minutes_66 (by decide) rfl ?_
          refine a_isub C dX8_minutes_67 rfl ?_
          obtain ⟨q68, h⟩ := h
          refine a_iald C dX8_minutes_68 k51 n51 q68 rfl ?_
          refine a_aload_n C dX8_minutes_69 rfl 0 rfl rfl ?_
          refine g_8_2 C hE dX8_minutes_70 ho kw_2_8 rfl ?_
          refine a_iload C dX8_minutes_73 4 rfl rfl ?_
          obtain ⟨q75, h⟩ := h
          refine a_iald C dX8_minutes_75 k51 n51 q75 rfl ?_
          refine a_callSI C (c_X8_combine l G cy L E hE u v32 (ms_I u (ms_at E o 2) (Int32.toNatClampNeg ((x4 + (-1)) - 1))) (ms_I u (ms_at E o 2) (Int32.toNatClampNeg (x4 + (-1))))  _ h) kw_4_124 kw_4_125 kw_1_8 kw_4_126 rfl rfl pd_X8_combine ⟨(Nat.le_of_ble_eq_true rfl), (Nat.le_of_ble_eq_true rfl)⟩ dX8_minutes_76 rfl (Nat.le_of_ble_eq_true rfl) ⟨(Nat.le_of_ble_eq_true rfl), (Nat.le_of_ble_eq_true rfl)⟩ rfl (fun r76 u76 h => ?_)
          obtain ⟨q79, h⟩ := h
          refine a_iast C dX8_minutes_79 k51 n51 q79 rfl ?_
          refine a_goto (tgt := 111) C dX8_minutes_80 (by decide) ?_
          refine a_sub (lv' := [(0, .ref (L o)), (1, .int a1), (2, .int a2), (3, .int a3), (4, .int (x4 + (-1))), (5, .int x5)]) [0, 1, 2, 3, 4, 5] rfl ?_
          exact c_X8_minutes_111 C hr hlocks hE ho ih (ms_sI u76 (ms_at E o 2) (Int32.toNatClampNeg ((x4 + (-1)) - 1)) r76) (x4 + (-1)) x5  h
def wp_X8_minutes (E : ms_En) (u : ms_St) (o : Nat) (a1 : Int32) (a2 : Int32) (a3 : Int32) (post : Int32 → ms_St → Prop) : Prop := ((ms_I u o 1) = 0 → post 10 u) ∧ (¬ (ms_I u o 1) = 0 → ∃ n16, wp_X8_minutes_16 E o a1 a2 a3 post n16 u 0 0)
set_option maxHeartbeats 4000000 in
set_option maxRecDepth 100000 in
theorem c_X8_minutes (l : Launch) (G : va_G) (cy : Nat → ClassId) (L : Nat → Nat) (E : ms_En) (hE : ms_WT E) (u : ms_St) (o : Nat) (a1 : Int32) (a2 : Int32) (a3 : Int32) (ho : ms_is E o 8) (post : Int32 → ms_St → Prop) (h : wp_X8_minutes E u o a1 a2 a3 post) : ms_MetI l ⟨"CensusWalk$VisitExpression", "minutes", "(III)I"⟩ (Cond.code ⟨"CensusWalk$VisitExpression", "minutes", "(III)I"⟩ prog_10_method_4_code 7 (some .int) :: lw_g) ({ frames := 2, cells := 0, slots := 0, locals := 54 } : Room) G cy L E [.ref (L o), .int a1, .int a2, .int a3] u post 0 0 := by
  refine ms_enterI (lv := [(0, .ref (L o)), (1, .int a1), (2, .int a2), (3, .int a3)]) (by decide) (Nat.le_of_ble_eq_true rfl) rfl ?_
  intro p e s m args below meth c A C hr hlocks
  unfold wp_X8_minutes at h
  refine a_aload_n C dX8_minutes_0 rfl 0 rfl rfl ?_
  refine g_8_1 C dX8_minutes_1 ho kw_2_7 rfl ?_
  refine a_if_ne (tgt := 10) C dX8_minutes_4 (by decide) rfl (fun hc => ?_) (fun hc => ?_)
  · replace h := h.2 hc
    refine a_iconst (v := 0) C dX8_minutes_10 (by decide) rfl ?_
    refine a_istore (lv' := [(0, .ref (L o)), (1, .int a1), (2, .int a2), (3, .int a3), (4, .int 0)]) C dX8_minutes_11 (by decide) [1, 2, 3, 4, 0] rfl rfl ?_
    refine a_iconst (v := 0) C dX8_minutes_13 (by decide) rfl ?_
    refine a_istore (lv' := [(0, .ref (L o)), (1, .int a1), (2, .int a2), (3, .int a3), (4, .int 0), (5, .int 0)]) C dX8_minutes_14 (by decide) [1, 2, 3, 4, 5, 0] rfl rfl ?_
    obtain ⟨n9, h⟩ := h
    exact c_X8_minutes_16 C hr hlocks hE ho  n9 u 0 0  h
  · replace h := h.1 hc
    refine a_bipush (v := 10) C dX8_minutes_7 (by decide) rfl ?_
    exact a_iret C dX8_minutes_9 hr hlocks (Nat.le_of_ble_eq_true rfl) (Nat.le_of_ble_eq_true rfl) h

/-! CensusWalk$Houses.setVisits(LCensusWalk$VisitExpression;)V -/
theorem pd_X0_setVisits : (⟨"CensusWalk$Houses", "setVisits", "(LCensusWalk$VisitExpression;)V"⟩ : MethodName).cls = "CensusWalk$Houses" ∧ (⟨"CensusWalk$Houses", "setVisits", "(LCensusWalk$VisitExpression;)V"⟩ : MethodName).cls ≠ "java/lang/invoke/MethodHandle" ∧ (⟨"CensusWalk$Houses", "setVisits", "(LCensusWalk$VisitExpression;)V"⟩ : MethodName).cls ≠ "java/lang/invoke/VarHandle" ∧ (parseMethodDescriptor (⟨"CensusWalk$Houses", "setVisits", "(LCensusWalk$VisitExpression;)V"⟩ : MethodName).desc).map (fun d => d.parameters.length) = some 1 := by decide +kernel
def wp_X0_setVisits_12 (E : ms_En) (o : Nat) (a1 : Nat) (post : ms_St → Prop) (k2 : ms_St → Int32 → Prop) : Nat → ms_St → Int32 → Int32 → Prop
  | 0 => fun _ _ _ => False
  | n + 1 => fun u x2 x3 => (4 ≤ x3 → k2 u (x2 + 1)) ∧ (¬ 4 ≤ x3 → vp_in x2 16 ∧ (wp_X8_minutes E u a1 (ms_I u (ms_at E o 4) (Int32.toNatClampNeg x2)) (x3 >>> (1 &&& 31)) ((x3 &&& 1) + 1) (fun r41 u41 => vp_in ((x2 * 4) + x3) 64 ∧ (wp_X0_setVisits_12 E o a1 post k2 n (ms_sI u41 (ms_at E o 8) (Int32.toNatClampNeg ((x2 * 4) + x3)) r41) x2 (x3 + 1)))))
set_option maxHeartbeats 4000000 in
set_option maxRecDepth 100000 in
theorem c_X0_setVisits_12 {p : Program} {l : Launch} {e : Env} {s : State} {m : MethodId} {args : Array Value} {below : List Frame} {meth : Method} {c : Code} {G : va_G} {cy : Nat → ClassId} {A : Nat → Prop} {L : Nat → Nat} {E : ms_En} (C : ms_Cx p m c cX0_setVisits 4 s args (Cond.code ⟨"CensusWalk$Houses", "setVisits", "(LCensusWalk$VisitExpression;)V"⟩ prog_2_method_5_code 4 none) "CensusWalk$Houses" G cy A) (hr : meth.sig.returnType = none) (hlocks : meth.locks = false) (hE : ms_WT E) {o : Nat} {a1 : Nat} {post : ms_St → Prop} {k2 : ms_St → Int32 → Prop} (ho : ms_is E o 0) (ha1 : ms_is E a1 8) (hk2 : ∀ (u : ms_St) (x2 : Int32), k2 u x2 → ms_At p l e ({ frames := 3, cells := 0, slots := 0, locals := 80 } : Room) s m args below meth c 4 G cy A L 0 0 (ms_QV below args s G cy L E A post 0 0) E u 2 [(0, .ref (L o)), (1, .ref (L a1)), (2, .int x2)] []) : ∀ (n : Nat) (u : ms_St) (x2 : Int32) (x3 : Int32), wp_X0_setVisits_12 E o a1 post k2 n u x2 x3 → ms_At p l e ({ frames := 3, cells := 0, slots := 0, locals := 80 } : Room) s m args below meth c 4 G cy A L 0 0 (ms_QV below args s G cy L E A post 0 0) E u 12 [(0, .ref (L o)), (1, .ref (L a1)), (2, .int x2), (3, .int x3)] [] := by
  intro n
  induction n with
  | zero =>
    intro u x2 x3  h
    exact absurd h id
  | succ n ih =>
    intro u x2 x3  h
    unfold wp_X0_setVisits_12 at h
    refine a_iload_n C dX0_setVisits_12 rfl 3 rfl rfl ?_
    refine a_iconst (v := 4) C dX0_setVisits_13 (by decide) rfl ?_
    refine a_icmp_ge (tgt := 51) C dX0_setVisits_14 (by decide) rfl (fun hc => ?_) (fun hc => ?_)
    · replace h := h.1 hc
      refine a_iinc (lv' := [(0, .ref (L o)), (1, .ref (L a1)), (2, .int (x2 + 1)), (3, .int x3)]) (v := (x2 + 1)) C dX0_setVisits_51 2 rfl (congrArg (fun z => x2 + z) (by decide)) (by decide) [1, 2, 0, 3] rfl rfl ?_
      refine a_goto (tgt := 2) C dX0_setVisits_54 (by decide) ?_
      refine a_sub (lv' := [(0, .ref (L o)), (1, .ref (L a1)), (2, .int (x2 + 1))]) [0, 1, 2] rfl ?_
      exact hk2 u (x2 + 1)  h
    · replace h := h.2 hc
      refine a_aload_n C dX0_setVisits_17 rfl 0 rfl rfl ?_
      refine g_0_8 C hE dX0_setVisits_18 ho kw_1_111 rfl ?_
      have k18 : ms_is E (ms_at E o 8) 13 := ms_wt hE ho rfl (by decide)
      have n18 : ms_N E (ms_at E o 8) = 64 := ms_wl hE ho (by decide) (by decide) rfl
      refine a_iload_n C dX0_setVisits_21 rfl 2 rfl rfl ?_
      refine a_iconst (v := 4) C dX0_setVisits_22 (by decide) rfl ?_
      refine a_imul C dX0_setVisits_23 rfl ?_
      refine a_iload_n C dX0_setVisits_24 rfl 3 rfl rfl ?_
      refine a_iadd C dX0_setVisits_25 rfl ?_
      refine a_aload_n C dX0_setVisits_26 rfl 1 rfl rfl ?_
      refine a_aload_n C dX0_setVisits_27 rfl 0 rfl rfl ?_
      refine g_0_4 C hE dX0_setVisits_28 ho kw_1_97 rfl ?_
      have k28 : ms_is E (ms_at E o 4) 13 := ms_wt hE ho rfl (by decide)
      have n28 : ms_N E (ms_at E o 4) = 16 := ms_wl hE ho (by decide) (by decide) rfl
      refine a_iload_n C dX0_setVisits_31 rfl 2 rfl rfl ?_
      obtain ⟨q32, h⟩ := h
      refine a_iald C dX0_setVisits_32 k28 n28 q32 rfl ?_
      refine a_iload_n C dX0_setVisits_33 rfl 3 rfl rfl ?_
      refine a_iconst (v := 1) C dX0_setVisits_34 (by decide) rfl ?_
      refine a_ishr C dX0_setVisits_35 rfl ?_
      refine a_iload_n C dX0_setVisits_36 rfl 3 rfl rfl ?_
      refine a_iconst (v := 1) C dX0_setVisits_37 (by decide) rfl ?_
      refine a_iand C dX0_setVisits_38 rfl ?_
      refine a_iconst (v := 1) C dX0_setVisits_39 (by decide) rfl ?_
      refine a_iadd C dX0_setVisits_40 rfl ?_
      refine a_callVI C (c_X8_minutes l G cy L E hE u a1 (ms_I u (ms_at E o 4) (Int32.toNatClampNeg x2)) (x3 >>> (1 &&& 31)) ((x3 &&& 1) + 1) ha1 _ h) ha1 rfl (by decide) kw_4_120 kw_4_121 kw_4_122 kw_1_8 kw_4_123 rfl rfl pd_X8_minutes ⟨(Nat.le_of_ble_eq_true rfl), (Nat.le_of_ble_eq_true rfl)⟩ dX0_setVisits_41 rfl (Nat.le_of_ble_eq_true rfl) ⟨(Nat.le_of_ble_eq_true rfl), (Nat.le_of_ble_eq_true rfl)⟩ rfl (fun r41 u41 h => ?_)
      obtain ⟨q44, h⟩ := h
      refine a_iast C dX0_setVisits_44 k18 n18 q44 rfl ?_
      refine a_iinc (lv' := [(0, .ref (L o)), (1, .ref (L a1)), (2, .int x2), (3, .int (x3 + 1))]) (v := (x3 + 1)) C dX0_setVisits_45 3 rfl (congrArg (fun z => x3 + z) (by decide)) (by decide) [1, 2, 3, 0] rfl rfl ?_
      refine a_goto (tgt := 12) C dX0_setVisits_48 (by decide) ?_
      exact ih (ms_sI u41 (ms_at E o 8) (Int32.toNatClampNeg ((x2 * 4) + x3)) r41) x2 (x3 + 1)  h
def wp_X0_setVisits_2 (E : ms_En) (o : Nat) (a1 : Nat) (post : ms_St → Prop)  : Nat → ms_St → Int32 → Prop
  | 0 => fun _ _ => False
  | n + 1 => fun u x2 => ((ms_I u o 0) ≤ x2 → post u) ∧ (¬ (ms_I u o 0) ≤ x2 → ∃ n12, wp_X0_setVisits_12 E o a1 post (wp_X0_setVisits_2 E o a1 post n) n12 u x2 0)
set_option maxHeartbeats 4000000 in
set_option maxRecDepth 100000 in
theorem c_X0_setVisits_2 {p : Program} {l : Launch} {e : Env} {s : State} {m : MethodId} {args : Array Value} {below : List Frame} {meth : Method} {c : Code} {G : va_G} {cy : Nat → ClassId} {A : Nat → Prop} {L : Nat → Nat} {E : ms_En} (C : ms_Cx p m c cX0_setVisits 4 s args (Cond.code ⟨"CensusWalk$Houses", "setVisits", "(LCensusWalk$VisitExpression;)V"⟩ prog_2_method_5_code 4 none) "CensusWalk$Houses" G cy A) (hr : meth.sig.returnType = none) (hlocks : meth.locks = false) (hE : ms_WT E) {o : Nat} {a1 : Nat} {post : ms_St → Prop}  (ho : ms_is E o 0) (ha1 : ms_is E a1 8)  : ∀ (n : Nat) (u : ms_St) (x2 : Int32), wp_X0_setVisits_2 E o a1 post n u x2 → ms_At p l e ({ frames := 3, cells := 0, slots := 0, locals := 80 } : Room) s m args below meth c 4 G cy A L 0 0 (ms_QV below args s G cy L E A post 0 0) E u 2 [(0, .ref (L o)), (1, .ref (L a1)), (2, .int x2)] [] := by
  intro n
  induction n with
  | zero =>
    intro u x2  h
    exact absurd h id
  | succ n ih =>
    intro u x2  h
    unfold wp_X0_setVisits_2 at h
    refine a_iload_n C dX0_setVisits_2 rfl 2 rfl rfl ?_
    refine a_aload_n C dX0_setVisits_3 rfl 0 rfl rfl ?_
    refine g_0_0 C dX0_setVisits_4 ho kw_1_82 rfl ?_
    refine a_icmp_ge (tgt := 57) C dX0_setVisits_7 (by decide) rfl (fun hc => ?_) (fun hc => ?_)
    · replace h := h.1 hc
      exact a_vret C dX0_setVisits_57 hr hlocks (Nat.le_of_ble_eq_true rfl) (Nat.le_of_ble_eq_true rfl) h
    · replace h := h.2 hc
      refine a_iconst (v := 0) C dX0_setVisits_10 (by decide) rfl ?_
      refine a_istore_n (lv' := [(0, .ref (L o)), (1, .ref (L a1)), (2, .int x2), (3, .int 0)]) C dX0_setVisits_11 rfl (by decide) [1, 2, 3, 0] rfl rfl ?_
      obtain ⟨n9, h⟩ := h
      exact c_X0_setVisits_12 C hr hlocks hE ho ha1 ih n9 u x2 0  h
def wp_X0_setVisits (E : ms_En) (u : ms_St) (o : Nat) (a1 : Nat) (post : ms_St → Prop) : Prop := ∃ n2, wp_X0_setVisits_2 E o a1 post n2 u 0
set_option maxHeartbeats 4000000 in
set_option maxRecDepth 100000 in
theorem c_X0_setVisits (l : Launch) (G : va_G) (cy : Nat → ClassId) (L : Nat → Nat) (E : ms_En) (hE : ms_WT E) (u : ms_St) (o : Nat) (a1 : Nat) (ho : ms_is E o 0) (ha1 : ms_is E a1 8) (post : ms_St → Prop) (h : wp_X0_setVisits E u o a1 post) : ms_MetV l ⟨"CensusWalk$Houses", "setVisits", "(LCensusWalk$VisitExpression;)V"⟩ (Cond.code ⟨"CensusWalk$Houses", "setVisits", "(LCensusWalk$VisitExpression;)V"⟩ prog_2_method_5_code 4 none :: lw_g) ({ frames := 3, cells := 0, slots := 0, locals := 80 } : Room) G cy L E [.ref (L o), .ref (L a1)] u post 0 0 := by
  refine ms_enterV (lv := [(0, .ref (L o)), (1, .ref (L a1))]) (by decide) (Nat.le_of_ble_eq_true rfl) rfl ?_
  intro p e s m args below meth c A C hr hlocks
  unfold wp_X0_setVisits at h
  refine a_iconst (v := 0) C dX0_setVisits_0 (by decide) rfl ?_
  refine a_istore_n (lv' := [(0, .ref (L o)), (1, .ref (L a1)), (2, .int 0)]) C dX0_setVisits_1 rfl (by decide) [1, 2, 0] rfl rfl ?_
  obtain ⟨n9, h⟩ := h
  exact c_X0_setVisits_2 C hr hlocks hE ho ha1  n9 u 0  h
