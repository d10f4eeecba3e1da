/-! CensusWalk$SetupReader.fail(I)Z -/
theorem pd_X3_fail : (⟨"CensusWalk$SetupReader", "fail", "(I)Z"⟩ : MethodName).cls = "CensusWalk$SetupReader" ∧ (⟨"CensusWalk$SetupReader", "fail", "(I)Z"⟩ : MethodName).cls ≠ "java/lang/invoke/MethodHandle" ∧ (⟨"CensusWalk$SetupReader", "fail", "(I)Z"⟩ : MethodName).cls ≠ "java/lang/invoke/VarHandle" ∧ (parseMethodDescriptor (⟨"CensusWalk$SetupReader", "fail", "(I)Z"⟩ : MethodName).desc).map (fun d => d.parameters.length) = some 1 := by decide +kernel
def wp_X3_fail (E : ms_En) (u : ms_St) (o : Nat) (a1 : Int32) (post : Int32 → ms_St → Prop) : Prop := post 0 (ms_sI (ms_sI u o 2 a1) o 1 (ms_I (ms_sI u o 2 a1) (ms_at E o 3) 1))
set_option maxHeartbeats 4000000 in
set_option maxRecDepth 100000 in
theorem c_X3_fail (l : Launch) (G : va_G) (cy : Nat → ClassId) (L : Nat → Nat) (E : ms_En) (hE : ms_WT E) (u : ms_St) (o : Nat) (a1 : Int32) (ho : ms_is E o 3) (post : Int32 → ms_St → Prop) (h : wp_X3_fail E u o a1 post) : ms_MetI l ⟨"CensusWalk$SetupReader", "fail", "(I)Z"⟩ (Cond.code ⟨"CensusWalk$SetupReader", "fail", "(I)Z"⟩ prog_5_method_13_code 2 (some .boolean) :: lw_g) ({ frames := 0, cells := 0, slots := 0, locals := 0 } : Room) G cy L E [.ref (L o), .int a1] u post 0 0 := by
  refine ms_enterI (lv := [(0, .ref (L o)), (1, .int a1)]) (by decide) (Nat.le_of_ble_eq_true rfl) rfl ?_
  intro p e s m args below meth c A C hr hlocks
  unfold wp_X3_fail at h
  refine a_aload_n C dX3_fail_0 rfl 0 rfl rfl ?_
  refine a_iload_n C dX3_fail_1 rfl 1 rfl rfl ?_
  refine s_3_2 C dX3_fail_2 ho kw_2_20 rfl ?_
  refine a_aload_n C dX3_fail_5 rfl 0 rfl rfl ?_
  refine a_aload_n C dX3_fail_6 rfl 0 rfl rfl ?_
  refine g_3_3 C hE dX3_fail_7 ho kw_2_21 rfl ?_
  have k7 : ms_is E (ms_at E o 3) 6 := ms_wt hE ho rfl (by decide)
  refine g_6_1 C dX3_fail_10 k7 kw_1_221 rfl ?_
  refine s_3_1 C dX3_fail_13 ho kw_2_18 rfl ?_
  refine a_iconst (v := 0) C dX3_fail_16 (by decide) rfl ?_
  exact a_zret C dX3_fail_17 hr hlocks (Nat.le_of_ble_eq_true rfl) (Nat.le_of_ble_eq_true rfl) rfl h

/-! CensusWalk$SetupReader.number(II)I -/
theorem pd_X3_number : (⟨"CensusWalk$SetupReader", "number", "(II)I"⟩ : MethodName).cls = "CensusWalk$SetupReader" ∧ (⟨"CensusWalk$SetupReader", "number", "(II)I"⟩ : MethodName).cls ≠ "java/lang/invoke/MethodHandle" ∧ (⟨"CensusWalk$SetupReader", "number", "(II)I"⟩ : MethodName).cls ≠ "java/lang/invoke/VarHandle" ∧ (parseMethodDescriptor (⟨"CensusWalk$SetupReader", "number", "(II)I"⟩ : MethodName).desc).map (fun d => d.parameters.length) = some 2 := by decide +kernel
def wp_X3_number_38 (E : ms_En) (o : Nat) (a1 : Int32) (a2 : Int32) (post : Int32 → ms_St → Prop)  (u : ms_St)  : Prop := wp_X3_fail E u o (-3) (fun r41 u41 => post (-1) u41)
set_option maxHeartbeats 4000000 in
set_option maxRecDepth 100000 in
theorem c_X3_number_38 {p : Program} {l : Launch} {e : Env} {s : State} {m : MethodId} {args : Array Value} {below : List Frame} {meth : Method} {c : Code} {G : va_G} {cy : Nat → ClassId} {A : Nat → Prop} {L : Nat → Nat} {E : ms_En} (C : ms_Cx p m c cX3_number 4 s args (Cond.code ⟨"CensusWalk$SetupReader", "number", "(II)I"⟩ prog_5_method_12_code 4 (some .int)) "CensusWalk$SetupReader" G cy A) (hr : meth.sig.returnType = (some .int)) (hlocks : meth.locks = false) (hE : ms_WT E) {o : Nat} {a1 : Int32} {a2 : Int32} {post : Int32 → ms_St → Prop}  (ho : ms_is E o 3)  (u : ms_St)   (h : wp_X3_number_38 E o a1 a2 post u ) : ms_At p l e ({ frames := 2, cells := 0, slots := 0, locals := 40 } : Room) s m args below meth c 4 G cy A L 0 0 (ms_QI below args s G cy L E A post 0 0) E u 38 [(0, .ref (L o))] [] := by
  unfold wp_X3_number_38 at h
  refine a_aload_n C dX3_number_38 rfl 0 rfl rfl ?_
  refine a_bipush (v := (-3)) C dX3_number_39 (by decide) rfl ?_
  refine a_callVI C (c_X3_fail l G cy L E hE u o (-3) ho _ h) ho rfl (by decide) kw_4_49 kw_4_51 kp_14 kw_1_6 kw_4_52 rfl rfl pd_X3_fail ⟨(Nat.le_of_ble_eq_true rfl), (Nat.le_of_ble_eq_true rfl)⟩ dX3_number_41 rfl (Nat.le_of_ble_eq_true rfl) ⟨(Nat.le_of_ble_eq_true rfl), (Nat.le_of_ble_eq_true rfl)⟩ rfl (fun r41 u41 h => ?_)
  refine a_pop C dX3_number_44 rfl rfl ?_
  refine a_iconst (v := (-1)) C dX3_number_45 (by decide) rfl ?_
  exact a_iret C dX3_number_46 hr hlocks (Nat.le_of_ble_eq_true rfl) (Nat.le_of_ble_eq_true rfl) h
def wp_X3_number (E : ms_En) (u : ms_St) (o : Nat) (a1 : Int32) (a2 : Int32) (post : Int32 → ms_St → Prop) : Prop := ∀ v7 : Int32, v7 = (ms_I u (ms_at E o 3) 2) → (((ms_I u (ms_at E o 3) 0) = 1 → (v7 < a1 → wp_X3_number_38 E o a1 a2 post u) ∧ (¬ v7 < a1 → (v7 ≤ a2 → wp_X6_advance E u (ms_at E o 3) (fun u51 => post v7 u51)) ∧ (¬ v7 ≤ a2 → wp_X3_number_38 E o a1 a2 post u))) ∧ (¬ (ms_I u (ms_at E o 3) 0) = 1 → wp_X3_fail E u o (-2) (fun r22 u22 => post (-1) u22)))
set_option maxHeartbeats 4000000 in
set_option maxRecDepth 100000 in
theorem c_X3_number (l : Launch) (G : va_G) (cy : Nat → ClassId) (L : Nat → Nat) (E : ms_En) (hE : ms_WT E) (u : ms_St) (o : Nat) (a1 : Int32) (a2 : Int32) (ho : ms_is E o 3) (post : Int32 → ms_St → Prop) (h : wp_X3_number E u o a1 a2 post) : ms_MetI l ⟨"CensusWalk$SetupReader", "number", "(II)I"⟩ (Cond.code ⟨"CensusWalk$SetupReader", "number", "(II)I"⟩ prog_5_method_12_code 4 (some .int) :: lw_g) ({ frames := 2, cells := 0, slots := 0, locals := 40 } : Room) G cy L E [.ref (L o), .int a1, .int a2] u post 0 0 := by
  refine ms_enterI (lv := [(0, .ref (L o)), (1, .int a1), (2, .int a2)]) (by decide) (Nat.le_of_ble_eq_true rfl) rfl ?_
  intro p e s m args below meth c A C hr hlocks
  unfold wp_X3_number at h
  refine a_aload_n C dX3_number_0 rfl 0 rfl rfl ?_
  refine g_3_3 C hE dX3_number_1 ho kw_2_21 rfl ?_
  have k1 : ms_is E (ms_at E o 3) 6 := ms_wt hE ho rfl (by decide)
  refine g_6_2 C dX3_number_4 k1 kw_1_223 rfl ?_
  refine a_nmI (fun v7 e7 => ?_)
  replace h := h v7 e7
  refine a_istore_n (lv' := [(0, .ref (L o)), (1, .int a1), (2, .int a2), (3, .int v7)]) C dX3_number_7 rfl (by decide) [1, 2, 3, 0] rfl rfl ?_
  refine a_aload_n C dX3_number_8 rfl 0 rfl rfl ?_
  refine g_3_3 C hE dX3_number_9 ho kw_2_21 rfl ?_
  refine g_6_0 C dX3_number_12 k1 kw_1_219 rfl ?_
  refine a_iconst (v := 1) C dX3_number_15 (by decide) rfl ?_
  refine a_icmp_eq (tgt := 28) C dX3_number_16 (by decide) rfl (fun hc => ?_) (fun hc => ?_)
  · replace h := h.1 hc
    refine a_iload_n C dX3_number_28 rfl 3 rfl rfl ?_
    refine a_iload_n C dX3_number_29 rfl 1 rfl rfl ?_
    refine a_icmp_lt (tgt := 38) C dX3_number_30 (by decide) rfl (fun hc => ?_) (fun hc => ?_)
    · replace h := h.1 hc
      refine a_sub (lv' := [(0, .ref (L o))]) [0] rfl ?_
      exact c_X3_number_38 C hr hlocks hE ho  u  h
    · replace h := h.2 hc
      refine a_iload_n C dX3_number_33 rfl 3 rfl rfl ?_
      refine a_iload_n C dX3_number_34 rfl 2 rfl rfl ?_
      refine a_icmp_le (tgt := 47) C dX3_number_35 (by decide) rfl (fun hc => ?_) (fun hc => ?_)
      · replace h := h.1 hc
        refine a_aload_n C dX3_number_47 rfl 0 rfl rfl ?_
        refine g_3_3 C hE dX3_number_48 ho kw_2_21 rfl ?_
        refine a_callVV C (c_X6_advance l G cy L E hE u (ms_at E o 3) k1 _ h) k1 rfl (by decide) kw_4_53 kw_3_222 kw_3_223 kw_1_7 kw_3_224 rfl rfl pd_X6_advance ⟨(Nat.le_of_ble_eq_true rfl), (Nat.le_of_ble_eq_true rfl)⟩ dX3_number_51 rfl (Nat.le_of_ble_eq_true rfl) ⟨(Nat.le_of_ble_eq_true rfl), (Nat.le_of_ble_eq_true rfl)⟩ rfl (fun u51 h => ?_)
        refine a_iload_n C dX3_number_54 rfl 3 rfl rfl ?_
        exact a_iret C dX3_number_55 hr hlocks (Nat.le_of_ble_eq_true rfl) (Nat.le_of_ble_eq_true rfl) h
      · replace h := h.2 hc
        refine a_sub (lv' := [(0, .ref (L o))]) [0] rfl ?_
        exact c_X3_number_38 C hr hlocks hE ho  u  h
  · replace h := h.2 hc
    refine a_aload_n C dX3_number_19 rfl 0 rfl rfl ?_
    refine a_bipush (v := (-2)) C dX3_number_20 (by decide) rfl ?_
    refine a_callVI C (c_X3_fail l G cy L E hE u o (-2) ho _ h) ho rfl (by decide) kw_4_49 kw_4_51 kp_14 kw_1_6 kw_4_52 rfl rfl pd_X3_fail ⟨(Nat.le_of_ble_eq_true rfl), (Nat.le_of_ble_eq_true rfl)⟩ dX3_number_22 rfl (Nat.le_of_ble_eq_true rfl) ⟨(Nat.le_of_ble_eq_true rfl), (Nat.le_of_ble_eq_true rfl)⟩ rfl (fun r22 u22 h => ?_)
    refine a_pop C dX3_number_25 rfl rfl ?_
    refine a_iconst (v := (-1)) C dX3_number_26 (by decide) rfl ?_
    exact a_iret C dX3_number_27 hr hlocks (Nat.le_of_ble_eq_true rfl) (Nat.le_of_ble_eq_true rfl) h

/-! CensusWalk$SetupReader.street()Z -/
theorem pd_X3_street : (⟨"CensusWalk$SetupReader", "street", "()Z"⟩ : MethodName).cls = "CensusWalk$SetupReader" ∧ (⟨"CensusWalk$SetupReader", "street", "()Z"⟩ : MethodName).cls ≠ "java/lang/invoke/MethodHandle" ∧ (⟨"CensusWalk$SetupReader", "street", "()Z"⟩ : MethodName).cls ≠ "java/lang/invoke/VarHandle" ∧ (parseMethodDescriptor (⟨"CensusWalk$SetupReader", "street", "()Z"⟩ : MethodName).desc).map (fun d => d.parameters.length) = some 0 := by decide +kernel
def wp_X3_street_111 (E : ms_En) (o : Nat) (post : Int32 → ms_St → Prop)  (u : ms_St) (x1 : Int32) (x2 : Int32) (z0 : Int32) : Prop := (z0 = (-1) → post 0 u) ∧ (¬ z0 = (-1) → wp_X5_add E u (ms_at E (ms_at E o 0) 3) x1 x2 z0 (fun u129 => post 1 u129))
set_option maxHeartbeats 4000000 in
set_option maxRecDepth 100000 in
theorem c_X3_street_111 {p : Program} {l : Launch} {e : Env} {s : State} {m : MethodId} {args : Array Value} {below : List Frame} {meth : Method} {c : Code} {G : va_G} {cy : Nat → ClassId} {A : Nat → Prop} {L : Nat → Nat} {E : ms_En} (C : ms_Cx p m c cX3_street 4 s args (Cond.code ⟨"CensusWalk$SetupReader", "street", "()Z"⟩ prog_5_method_5_code 4 (some .boolean)) "CensusWalk$SetupReader" G cy A) (hr : meth.sig.returnType = (some .boolean)) (hlocks : meth.locks = false) (hE : ms_WT E) {o : Nat} {post : Int32 → ms_St → Prop}  (ho : ms_is E o 3)  (u : ms_St) (x1 : Int32) (x2 : Int32) (z0 : Int32)  (h : wp_X3_street_111 E o post u x1 x2 z0) : ms_At p l e ({ frames := 3, cells := 0, slots := 0, locals := 63 } : Room) s m args below meth c 4 G cy A L 0 0 (ms_QI below args s G cy L E A post 0 0) E u 111 [(0, .ref (L o)), (1, .int x1), (2, .int x2)] [.int z0] := by
  unfold wp_X3_street_111 at h
  refine a_istore_n (lv' := [(0, .ref (L o)), (1, .int x1), (2, .int x2), (3, .int z0)]) C dX3_street_111 rfl (by decide) [1, 2, 3, 0] rfl rfl ?_
  refine a_iload_n C dX3_street_112 rfl 3 rfl rfl ?_
  refine a_iconst (v := (-1)) C dX3_street_113 (by decide) rfl ?_
  refine a_icmp_ne (tgt := 119) C dX3_street_114 (by decide) rfl (fun hc => ?_) (fun hc => ?_)
  · replace h := h.2 hc
    refine a_aload_n C dX3_street_119 rfl 0 rfl rfl ?_
    refine g_3_0 C hE dX3_street_120 ho kw_2_16 rfl ?_
    have k120 : ms_is E (ms_at E o 0) 7 := ms_wt hE ho rfl (by decide)
    refine g_7_3 C hE dX3_street_123 k120 kw_1_177 rfl ?_
    have k123 : ms_is E (ms_at E (ms_at E o 0) 3) 5 := ms_wt hE k120 rfl (by decide)
    refine a_iload_n C dX3_street_126 rfl 1 rfl rfl ?_
    refine a_iload_n C dX3_street_127 rfl 2 rfl rfl ?_
    refine a_iload_n C dX3_street_128 rfl 3 rfl rfl ?_
    refine a_callVV C (c_X5_add l G cy L E hE u (ms_at E (ms_at E o 0) 3) x1 x2 z0 k123 _ h) k123 rfl (by decide) kw_4_75 kw_4_76 kw_4_77 kw_1_3 kw_4_78 rfl rfl pd_X5_add ⟨(Nat.le_of_ble_eq_true rfl), (Nat.le_of_ble_eq_true rfl)⟩ dX3_street_129 rfl (Nat.le_of_ble_eq_true rfl) ⟨(Nat.le_of_ble_eq_true rfl), (Nat.le_of_ble_eq_true rfl)⟩ rfl (fun u129 h => ?_)
    refine a_iconst (v := 1) C dX3_street_132 (by decide) rfl ?_
    exact a_zret C dX3_street_133 hr hlocks (Nat.le_of_ble_eq_true rfl) (Nat.le_of_ble_eq_true rfl) rfl h
  · replace h := h.1 hc
    refine a_iconst (v := 0) C dX3_street_117 (by decide) rfl ?_
    exact a_zret C dX3_street_118 hr hlocks (Nat.le_of_ble_eq_true rfl) (Nat.le_of_ble_eq_true rfl) rfl h
def wp_X3_street_80 (E : ms_En) (o : Nat) (post : Int32 → ms_St → Prop)  (u : ms_St) (x1 : Int32) : Prop := wp_X3_number E u o 0 ((ms_I u (ms_at E o 0) 0) - 1) (fun r91 u91 => (r91 = (-1) → wp_X3_street_111 E o post u91 x1 r91 (-1)) ∧ (¬ r91 = (-1) → wp_X3_number E u91 o 1 99 (fun r108 u108 => wp_X3_street_111 E o post u108 x1 r91 r108)))
set_option maxHeartbeats 4000000 in
set_option maxRecDepth 100000 in
theorem c_X3_street_80 {p : Program} {l : Launch} {e : Env} {s : State} {m : MethodId} {args : Array Value} {below : List Frame} {meth : Method} {c : Code} {G : va_G} {cy : Nat → ClassId} {A : Nat → Prop} {L : Nat → Nat} {E : ms_En} (C : ms_Cx p m c cX3_street 4 s args (Cond.code ⟨"CensusWalk$SetupReader", "street", "()Z"⟩ prog_5_method_5_code 4 (some .boolean)) "CensusWalk$SetupReader" G cy A) (hr : meth.sig.returnType = (some .boolean)) (hlocks : meth.locks = false) (hE : ms_WT E) {o : Nat} {post : Int32 → ms_St → Prop}  (ho : ms_is E o 3)  (u : ms_St) (x1 : Int32)  (h : wp_X3_street_80 E o post u x1) : ms_At p l e ({ frames := 3, cells := 0, slots := 0, locals := 63 } : Room) s m args below meth c 4 G cy A L 0 0 (ms_QI below args s G cy L E A post 0 0) E u 80 [(0, .ref (L o)), (1, .int x1)] [] := by
  unfold wp_X3_street_80 at h
  refine a_aload_n C dX3_street_80 rfl 0 rfl rfl ?_
  refine a_iconst (v := 0) C dX3_street_81 (by decide) rfl ?_
  refine a_aload_n C dX3_street_82 rfl 0 rfl rfl ?_
  refine g_3_0 C hE dX3_street_83 ho kw_2_16 rfl ?_
  have k83 : ms_is E (ms_at E o 0) 7 := ms_wt hE ho rfl (by decide)
  refine g_7_0 C dX3_street_86 k83 kw_1_167 rfl ?_
  refine a_iconst (v := 1) C dX3_street_89 (by decide) rfl ?_
  refine a_isub C dX3_street_90 rfl ?_
  refine a_callVI C (c_X3_number l G cy L E hE u o 0 ((ms_I u (ms_at E o 0) 0) - 1) ho _ h) ho rfl (by decide) kw_4_54 kw_4_56 kp_15 kw_1_6 kw_4_57 rfl rfl pd_X3_number ⟨(Nat.le_of_ble_eq_true rfl), (Nat.le_of_ble_eq_true rfl)⟩ dX3_street_91 rfl (Nat.le_of_ble_eq_true rfl) ⟨(Nat.le_of_ble_eq_true rfl), (Nat.le_of_ble_eq_true rfl)⟩ rfl (fun r91 u91 h => ?_)
  refine a_istore_n (lv' := [(0, .ref (L o)), (1, .int x1), (2, .int r91)]) C dX3_street_94 rfl (by decide) [1, 2, 0] rfl rfl ?_
  refine a_iload_n C dX3_street_95 rfl 2 rfl rfl ?_
  refine a_iconst (v := (-1)) C dX3_street_96 (by decide) rfl ?_
  refine a_icmp_ne (tgt := 104) C dX3_street_97 (by decide) rfl (fun hc => ?_) (fun hc => ?_)
  · replace h := h.2 hc
    refine a_aload_n C dX3_street_104 rfl 0 rfl rfl ?_
    refine a_iconst (v := 1) C dX3_street_105 (by decide) rfl ?_
    refine a_bipush (v := 99) C dX3_street_106 (by decide) rfl ?_
    refine a_callVI C (c_X3_number l G cy L E hE u91 o 1 99 ho _ h) ho rfl (by decide) kw_4_54 kw_4_56 kp_15 kw_1_6 kw_4_57 rfl rfl pd_X3_number ⟨(Nat.le_of_ble_eq_true rfl), (Nat.le_of_ble_eq_true rfl)⟩ dX3_street_108 rfl (Nat.le_of_ble_eq_true rfl) ⟨(Nat.le_of_ble_eq_true rfl), (Nat.le_of_ble_eq_true rfl)⟩ rfl (fun r108 u108 h => ?_)
    exact c_X3_street_111 C hr hlocks hE ho  u108 x1 r91 r108  h
  · replace h := h.1 hc
    refine a_iconst (v := (-1)) C dX3_street_100 (by decide) rfl ?_
    refine a_goto (tgt := 111) C dX3_street_101 (by decide) ?_
    exact c_X3_street_111 C hr hlocks hE ho  u91 x1 r91 (-1)  h
def wp_X3_street (E : ms_En) (u : ms_St) (o : Nat) (post : Int32 → ms_St → Prop) : Prop := ((ms_I u (ms_at E (ms_at E o 0) 3) 0) < 12 → wp_X6_advance E u (ms_at E o 3) (fun u26 => wp_X3_number E u26 o 0 ((ms_I u26 (ms_at E o 0) 0) - 1) (fun r40 u40 => (r40 = (-1) → post 0 u40) ∧ (¬ r40 = (-1) → ((ms_I u40 (ms_at E o 3) 0) = 1 → ((ms_I u40 (ms_at E o 3) 2) = r40 → wp_X3_fail E u40 o (-3) (fun r76 u76 => (r76 = 0 ∨ r76 = 1) ∧ (post r76 u76))) ∧ (¬ (ms_I u40 (ms_at E o 3) 2) = r40 → wp_X3_street_80 E o post u40 r40)) ∧ (¬ (ms_I u40 (ms_at E o 3) 0) = 1 → wp_X3_street_80 E o post u40 r40))))) ∧ (¬ (ms_I u (ms_at E (ms_at E o 0) 3) 0) < 12 → wp_X3_fail E u o (-4) (fun r18 u18 => (r18 = 0 ∨ r18 = 1) ∧ (post r18 u18)))
set_option maxHeartbeats 4000000 in
set_option maxRecDepth 100000 in
theorem c_X3_street (l : Launch) (G : va_G) (cy : Nat → ClassId) (L : Nat → Nat) (E : ms_En) (hE : ms_WT E) (u : ms_St) (o : Nat) (ho : ms_is E o 3) (post : Int32 → ms_St → Prop) (h : wp_X3_street E u o post) : ms_MetI l ⟨"CensusWalk$SetupReader", "street", "()Z"⟩ (Cond.code ⟨"CensusWalk$SetupReader", "street", "()Z"⟩ prog_5_method_5_code 4 (some .boolean) :: lw_g) ({ frames := 3, cells := 0, slots := 0, locals := 63 } : Room) G cy L E [.ref (L o)] u post 0 0 := by
  refine ms_enterI (lv := [(0, .ref (L o))]) (by decide) (Nat.le_of_ble_eq_true rfl) rfl ?_
  intro p e s m args below meth c A C hr hlocks
  unfold wp_X3_street at h
  refine a_aload_n C dX3_street_0 rfl 0 rfl rfl ?_
  refine g_3_0 C hE dX3_street_1 ho kw_2_16 rfl ?_
  have k1 : ms_is E (ms_at E o 0) 7 := ms_wt hE ho rfl (by decide)
  refine g_7_3 C hE dX3_street_4 k1 kw_1_177 rfl ?_
  have k4 : ms_is E (ms_at E (ms_at E o 0) 3) 5 := ms_wt hE k1 rfl (by decide)
  refine g_5_0 C dX3_street_7 k4 kw_1_50 rfl ?_
  refine a_bipush (v := 12) C dX3_street_10 (by decide) rfl ?_
  refine a_icmp_lt (tgt := 22) C dX3_street_12 (by decide) rfl (fun hc => ?_) (fun hc => ?_)
  · replace h := h.1 hc
    refine a_aload_n C dX3_street_22 rfl 0 rfl rfl ?_
    refine g_3_3 C hE dX3_street_23 ho kw_2_21 rfl ?_
    have k23 : ms_is E (ms_at E o 3) 6 := ms_wt hE ho rfl (by decide)
    refine a_callVV C (c_X6_advance l G cy L E hE u (ms_at E o 3) k23 _ h) k23 rfl (by decide) kw_4_53 kw_3_222 kw_3_223 kw_1_7 kw_3_224 rfl rfl pd_X6_advance ⟨(Nat.le_of_ble_eq_true rfl), (Nat.le_of_ble_eq_true rfl)⟩ dX3_street_26 rfl (Nat.le_of_ble_eq_true rfl) ⟨(Nat.le_of_ble_eq_true rfl), (Nat.le_of_ble_eq_true rfl)⟩ rfl (fun u26 h => ?_)
    refine a_aload_n C dX3_street_29 rfl 0 rfl rfl ?_
    refine a_iconst (v := 0) C dX3_street_30 (by decide) rfl ?_
    refine a_aload_n C dX3_street_31 rfl 0 rfl rfl ?_
    refine g_3_0 C hE dX3_street_32 ho kw_2_16 rfl ?_
    refine g_7_0 C dX3_street_35 k1 kw_1_167 rfl ?_
    refine a_iconst (v := 1) C dX3_street_38 (by decide) rfl ?_
    refine a_isub C dX3_street_39 rfl ?_
    refine a_callVI C (c_X3_number l G cy L E hE u26 o 0 ((ms_I u26 (ms_at E o 0) 0) - 1) ho _ h) ho rfl (by decide) kw_4_54 kw_4_56 kp_15 kw_1_6 kw_4_57 rfl rfl pd_X3_number ⟨(Nat.le_of_ble_eq_true rfl), (Nat.le_of_ble_eq_true rfl)⟩ dX3_street_40 rfl (Nat.le_of_ble_eq_true rfl) ⟨(Nat.le_of_ble_eq_true rfl), (Nat.le_of_ble_eq_true rfl)⟩ rfl (fun r40 u40 h => ?_)
    refine a_istore_n (lv' := [(0, .ref (L o)), (1, .int r40)]) C dX3_street_43 rfl (by decide) [1, 0] rfl rfl ?_
    refine a_iload_n C dX3_street_44 rfl 1 rfl rfl ?_
    refine a_iconst (v := (-1)) C dX3_street_45 (by decide) rfl ?_
    refine a_icmp_ne (tgt := 51) C dX3_street_46 (by decide) rfl (fun hc => ?_) (fun hc => ?_)
    · replace h := h.2 hc
      refine a_aload_n C dX3_street_51 rfl 0 rfl rfl ?_
      refine g_3_3 C hE dX3_street_52 ho kw_2_21 rfl ?_
      refine g_6_0 C dX3_street_55 k23 kw_1_219 rfl ?_
      refine a_iconst (v := 1) C dX3_street_58 (by decide) rfl ?_
      refine a_icmp_ne (tgt := 80) C dX3_street_59 (by decide) rfl (fun hc => ?_) (fun hc => ?_)
      · replace h := h.2 hc
        exact c_X3_street_80 C hr hlocks hE ho  u40 r40  h
      · replace h := h.1 hc
        refine a_aload_n C dX3_street_62 rfl 0 rfl rfl ?_
        refine g_3_3 C hE dX3_street_63 ho kw_2_21 rfl ?_
        refine g_6_2 C dX3_street_66 k23 kw_1_223 rfl ?_
        refine a_iload_n C dX3_street_69 rfl 1 rfl rfl ?_
        refine a_icmp_ne (tgt := 80) C dX3_street_70 (by decide) rfl (fun hc => ?_) (fun hc => ?_)
        · replace h := h.2 hc
          exact c_X3_street_80 C hr hlocks hE ho  u40 r40  h
        · replace h := h.1 hc
          refine a_aload_n C dX3_street_73 rfl 0 rfl rfl ?_
          refine a_bipush (v := (-3)) C dX3_street_74 (by decide) rfl ?_
          refine a_callVI C (c_X3_fail l G cy L E hE u40 o (-3) ho _ h) ho rfl (by decide) kw_4_49 kw_4_51 kp_14 kw_1_6 kw_4_52 rfl rfl pd_X3_fail ⟨(Nat.le_of_ble_eq_true rfl), (Nat.le_of_ble_eq_true rfl)⟩ dX3_street_76 rfl (Nat.le_of_ble_eq_true rfl) ⟨(Nat.le_of_ble_eq_true rfl), (Nat.le_of_ble_eq_true rfl)⟩ rfl (fun r76 u76 h => ?_)
          obtain ⟨q79, h⟩ := h
          exact a_zret C dX3_street_79 hr hlocks (Nat.le_of_ble_eq_true rfl) (Nat.le_of_ble_eq_true rfl) (ms_nz q79) h
    · replace h := h.1 hc
      refine a_iconst (v := 0) C dX3_street_49 (by decide) rfl ?_
      exact a_zret C dX3_street_50 hr hlocks (Nat.le_of_ble_eq_true rfl) (Nat.le_of_ble_eq_true rfl) rfl h
  · replace h := h.2 hc
    refine a_aload_n C dX3_street_15 rfl 0 rfl rfl ?_
    refine a_bipush (v := (-4)) C dX3_street_16 (by decide) rfl ?_
    refine a_callVI C (c_X3_fail l G cy L E hE u o (-4) ho _ h) ho rfl (by decide) kw_4_49 kw_4_51 kp_14 kw_1_6 kw_4_52 rfl rfl pd_X3_fail ⟨(Nat.le_of_ble_eq_true rfl), (Nat.le_of_ble_eq_true rfl)⟩ dX3_street_18 rfl (Nat.le_of_ble_eq_true rfl) ⟨(Nat.le_of_ble_eq_true rfl), (Nat.le_of_ble_eq_true rfl)⟩ rfl (fun r18 u18 h => ?_)
    obtain ⟨q21, h⟩ := h
    exact a_zret C dX3_street_21 hr hlocks (Nat.le_of_ble_eq_true rfl) (Nat.le_of_ble_eq_true rfl) (ms_nz q21) h

/-! CensusWalk$SetupReader.walker()Z -/
theorem pd_X3_walker : (⟨"CensusWalk$SetupReader", "walker", "()Z"⟩ : MethodName).cls = "CensusWalk$SetupReader" ∧ (⟨"CensusWalk$SetupReader", "walker", "()Z"⟩ : MethodName).cls ≠ "java/lang/invoke/MethodHandle" ∧ (⟨"CensusWalk$SetupReader", "walker", "()Z"⟩ : MethodName).cls ≠ "java/lang/invoke/VarHandle" ∧ (parseMethodDescriptor (⟨"CensusWalk$SetupReader", "walker", "()Z"⟩ : MethodName).desc).map (fun d => d.parameters.length) = some 0 := by decide +kernel
def wp_X3_walker_60 (E : ms_En) (o : Nat) (post : Int32 → ms_St → Prop)  (u : ms_St) (x1 : Int32) (z0 : Int32) : Prop := (z0 = (-1) → post 0 u) ∧ (¬ z0 = (-1) → wp_X9_add E u (ms_at E (ms_at E o 0) 5) x1 z0 (fun u77 => post 1 u77))
set_option maxHeartbeats 4000000 in
set_option maxRecDepth 100000 in
theorem c_X3_walker_60 {p : Program} {l : Launch} {e : Env} {s : State} {m : MethodId} {args : Array Value} {below : List Frame} {meth : Method} {c : Code} {G : va_G} {cy : Nat → ClassId} {A : Nat → Prop} {L : Nat → Nat} {E : ms_En} (C : ms_Cx p m c cX3_walker 3 s args (Cond.code ⟨"CensusWalk$SetupReader", "walker", "()Z"⟩ prog_5_method_7_code 3 (some .boolean)) "CensusWalk$SetupReader" G cy A) (hr : meth.sig.returnType = (some .boolean)) (hlocks : meth.locks = false) (hE : ms_WT E) {o : Nat} {post : Int32 → ms_St → Prop}  (ho : ms_is E o 3)  (u : ms_St) (x1 : Int32) (z0 : Int32)  (h : wp_X3_walker_60 E o post u x1 z0) : ms_At p l e ({ frames := 3, cells := 0, slots := 0, locals := 63 } : Room) s m args below meth c 3 G cy A L 0 0 (ms_QI below args s G cy L E A post 0 0) E u 60 [(0, .ref (L o)), (1, .int x1)] [.int z0] := by
  unfold wp_X3_walker_60 at h
  refine a_istore_n (lv' := [(0, .ref (L o)), (1, .int x1), (2, .int z0)]) C dX3_walker_60 rfl (by decide) [1, 2, 0] rfl rfl ?_
  refine a_iload_n C dX3_walker_61 rfl 2 rfl rfl ?_
  refine a_iconst (v := (-1)) C dX3_walker_62 (by decide) rfl ?_
  refine a_icmp_ne (tgt := 68) C dX3_walker_63 (by decide) rfl (fun hc => ?_) (fun hc => ?_)
  · replace h := h.2 hc
    refine a_aload_n C dX3_walker_68 rfl 0 rfl rfl ?_
    refine g_3_0 C hE dX3_walker_69 ho kw_2_16 rfl ?_
    have k69 : ms_is E (ms_at E o 0) 7 := ms_wt hE ho rfl (by decide)
    refine g_7_5 C hE dX3_walker_72 k69 kw_1_188 rfl ?_
    have k72 : ms_is E (ms_at E (ms_at E o 0) 5) 9 := ms_wt hE k69 rfl (by decide)
    refine a_iload_n C dX3_walker_75 rfl 1 rfl rfl ?_
    refine a_iload_n C dX3_walker_76 rfl 2 rfl rfl ?_
    refine a_callVV C (c_X9_add l G cy L E hE u (ms_at E (ms_at E o 0) 5) x1 z0 k72 _ h) k72 rfl (by decide) kw_4_91 kw_4_92 kw_4_93 kw_1_5 kw_4_94 rfl rfl pd_X9_add ⟨(Nat.le_of_ble_eq_true rfl), (Nat.le_of_ble_eq_true rfl)⟩ dX3_walker_77 rfl (Nat.le_of_ble_eq_true rfl) ⟨(Nat.le_of_ble_eq_true rfl), (Nat.le_of_ble_eq_true rfl)⟩ rfl (fun u77 h => ?_)
    refine a_iconst (v := 1) C dX3_walker_80 (by decide) rfl ?_
    exact a_zret C dX3_walker_81 hr hlocks (Nat.le_of_ble_eq_true rfl) (Nat.le_of_ble_eq_true rfl) rfl h
  · replace h := h.1 hc
    refine a_iconst (v := 0) C dX3_walker_66 (by decide) rfl ?_
    exact a_zret C dX3_walker_67 hr hlocks (Nat.le_of_ble_eq_true rfl) (Nat.le_of_ble_eq_true rfl) rfl h
def wp_X3_walker (E : ms_En) (u : ms_St) (o : Nat) (post : Int32 → ms_St → Prop) : Prop := ((ms_I u (ms_at E (ms_at E o 0) 5) 0) < 3 → wp_X6_advance E u (ms_at E o 3) (fun u25 => wp_X3_number E u25 o 0 ((ms_I u25 (ms_at E o 0) 0) - 1) (fun r39 u39 => (r39 = (-1) → wp_X3_walker_60 E o post u39 r39 (-1)) ∧ (¬ r39 = (-1) → wp_X3_number E u39 o 0 1440 (fun r57 u57 => wp_X3_walker_60 E o post u57 r39 r57))))) ∧ (¬ (ms_I u (ms_at E (ms_at E o 0) 5) 0) < 3 → wp_X3_fail E u o (-4) (fun r17 u17 => (r17 = 0 ∨ r17 = 1) ∧ (post r17 u17)))
set_option maxHeartbeats 4000000 in
set_option maxRecDepth 100000 in
theorem c_X3_walker (l : Launch) (G : va_G) (cy : Nat → ClassId) (L : Nat → Nat) (E : ms_En) (hE : ms_WT E) (u : ms_St) (o : Nat) (ho : ms_is E o 3) (post : Int32 → ms_St → Prop) (h : wp_X3_walker E u o post) : ms_MetI l ⟨"CensusWalk$SetupReader", "walker", "()Z"⟩ (Cond.code ⟨"CensusWalk$SetupReader", "walker", "()Z"⟩ prog_5_method_7_code 3 (some .boolean) :: lw_g) ({ frames := 3, cells := 0, slots := 0, locals := 63 } : Room) G cy L E [.ref (L o)] u post 0 0 := by
  refine ms_enterI (lv := [(0, .ref (L o))]) (by decide) (Nat.le_of_ble_eq_true rfl) rfl ?_
  intro p e s m args below meth c A C hr hlocks
  unfold wp_X3_walker at h
  refine a_aload_n C dX3_walker_0 rfl 0 rfl rfl ?_
  refine g_3_0 C hE dX3_walker_1 ho kw_2_16 rfl ?_
  have k1 : ms_is E (ms_at E o 0) 7 := ms_wt hE ho rfl (by decide)
  refine g_7_5 C hE dX3_walker_4 k1 kw_1_188 rfl ?_
  have k4 : ms_is E (ms_at E (ms_at E o 0) 5) 9 := ms_wt hE k1 rfl (by decide)
  refine g_9_0 C dX3_walker_7 k4 kw_1_141 rfl ?_
  refine a_iconst (v := 3) C dX3_walker_10 (by decide) rfl ?_
  refine a_icmp_lt (tgt := 21) C dX3_walker_11 (by decide) rfl (fun hc => ?_) (fun hc => ?_)
  · replace h := h.1 hc
    refine a_aload_n C dX3_walker_21 rfl 0 rfl rfl ?_
    refine g_3_3 C hE dX3_walker_22 ho kw_2_21 rfl ?_
    have k22 : ms_is E (ms_at E o 3) 6 := ms_wt hE ho rfl (by decide)
    refine a_callVV C (c_X6_advance l G cy L E hE u (ms_at E o 3) k22 _ h) k22 rfl (by decide) kw_4_53 kw_3_222 kw_3_223 kw_1_7 kw_3_224 rfl rfl pd_X6_advance ⟨(Nat.le_of_ble_eq_true rfl), (Nat.le_of_ble_eq_true rfl)⟩ dX3_walker_25 rfl (Nat.le_of_ble_eq_true rfl) ⟨(Nat.le_of_ble_eq_true rfl), (Nat.le_of_ble_eq_true rfl)⟩ rfl (fun u25 h => ?_)
    refine a_aload_n C dX3_walker_28 rfl 0 rfl rfl ?_
    refine a_iconst (v := 0) C dX3_walker_29 (by decide) rfl ?_
    refine a_aload_n C dX3_walker_30 rfl 0 rfl rfl ?_
    refine g_3_0 C hE dX3_walker_31 ho kw_2_16 rfl ?_
    refine g_7_0 C dX3_walker_34 k1 kw_1_167 rfl ?_
    refine a_iconst (v := 1) C dX3_walker_37 (by decide) rfl ?_
    refine a_isub C dX3_walker_38 rfl ?_
    refine a_callVI C (c_X3_number l G cy L E hE u25 o 0 ((ms_I u25 (ms_at E o 0) 0) - 1) ho _ h) ho rfl (by decide) kw_4_54 kw_4_56 kp_15 kw_1_6 kw_4_57 rfl rfl pd_X3_number ⟨(Nat.le_of_ble_eq_true rfl), (Nat.le_of_ble_eq_true rfl)⟩ dX3_walker_39 rfl (Nat.le_of_ble_eq_true rfl) ⟨(Nat.le_of_ble_eq_true rfl), (Nat.le_of_ble_eq_true rfl)⟩ rfl (fun r39 u39 h => ?_)
    refine a_istore_n (lv' := [(0, .ref (L o)), (1, .int r39)]) C dX3_walker_42 rfl (by decide) [1, 0] rfl rfl ?_
    refine a_iload_n C dX3_walker_43 rfl 1 rfl rfl ?_
    refine a_iconst (v := (-1)) C dX3_walker_44 (by decide) rfl ?_
    refine a_icmp_ne (tgt := 52) C dX3_walker_45 (by decide) rfl (fun hc => ?_) (fun hc => ?_)
    · replace h := h.2 hc
      refine a_aload_n C dX3_walker_52 rfl 0 rfl rfl ?_
      refine a_iconst (v := 0) C dX3_walker_53 (by decide) rfl ?_
      refine a_sipush (v := 1440) C dX3_walker_54 (by decide) rfl ?_
      refine a_callVI C (c_X3_number l G cy L E hE u39 o 0 1440 ho _ h) ho rfl (by decide) kw_4_54 kw_4_56 kp_15 kw_1_6 kw_4_57 rfl rfl pd_X3_number ⟨(Nat.le_of_ble_eq_true rfl), (Nat.le_of_ble_eq_true rfl)⟩ dX3_walker_57 rfl (Nat.le_of_ble_eq_true rfl) ⟨(Nat.le_of_ble_eq_true rfl), (Nat.le_of_ble_eq_true rfl)⟩ rfl (fun r57 u57 h => ?_)
      exact c_X3_walker_60 C hr hlocks hE ho  u57 r39 r57  h
    · replace h := h.1 hc
      refine a_iconst (v := (-1)) C dX3_walker_48 (by decide) rfl ?_
      refine a_goto (tgt := 60) C dX3_walker_49 (by decide) ?_
      exact c_X3_walker_60 C hr hlocks hE ho  u39 r39 (-1)  h
  · replace h := h.2 hc
    refine a_aload_n C dX3_walker_14 rfl 0 rfl rfl ?_
    refine a_bipush (v := (-4)) C dX3_walker_15 (by decide) rfl ?_
    refine a_callVI C (c_X3_fail l G cy L E hE u o (-4) ho _ h) ho rfl (by decide) kw_4_49 kw_4_51 kp_14 kw_1_6 kw_4_52 rfl rfl pd_X3_fail ⟨(Nat.le_of_ble_eq_true rfl), (Nat.le_of_ble_eq_true rfl)⟩ dX3_walker_17 rfl (Nat.le_of_ble_eq_true rfl) ⟨(Nat.le_of_ble_eq_true rfl), (Nat.le_of_ble_eq_true rfl)⟩ rfl (fun r17 u17 h => ?_)
    obtain ⟨q20, h⟩ := h
    exact a_zret C dX3_walker_20 hr hlocks (Nat.le_of_ble_eq_true rfl) (Nat.le_of_ble_eq_true rfl) (ms_nz q20) h

/-! CensusWalk$SetupReader.expect(C)Z -/
theorem pd_X3_expect : (⟨"CensusWalk$SetupReader", "expect", "(C)Z"⟩ : MethodName).cls = "CensusWalk$SetupReader" ∧ (⟨"CensusWalk$SetupReader", "expect", "(C)Z"⟩ : MethodName).cls ≠ "java/lang/invoke/MethodHandle" ∧ (⟨"CensusWalk$SetupReader", "expect", "(C)Z"⟩ : MethodName).cls ≠ "java/lang/invoke/VarHandle" ∧ (parseMethodDescriptor (⟨"CensusWalk$SetupReader", "expect", "(C)Z"⟩ : MethodName).desc).map (fun d => d.parameters.length) = some 1 := by decide +kernel
def wp_X3_expect (E : ms_En) (u : ms_St) (o : Nat) (a1 : Int32) (post : Int32 → ms_St → Prop) : Prop := wp_X6_isSign E u (ms_at E o 3) a1 (fun r5 u5 => (r5 = 0 → wp_X3_fail E u5 o (-2) (fun r14 u14 => (r14 = 0 ∨ r14 = 1) ∧ (post r14 u14))) ∧ (¬ r5 = 0 → wp_X6_advance E u5 (ms_at E o 3) (fun u22 => post 1 u22)))
set_option maxHeartbeats 4000000 in
set_option maxRecDepth 100000 in
theorem c_X3_expect (l : Launch) (G : va_G) (cy : Nat → ClassId) (L : Nat → Nat) (E : ms_En) (hE : ms_WT E) (u : ms_St) (o : Nat) (a1 : Int32) (ho : ms_is E o 3) (post : Int32 → ms_St → Prop) (h : wp_X3_expect E u o a1 post) : ms_MetI l ⟨"CensusWalk$SetupReader", "expect", "(C)Z"⟩ (Cond.code ⟨"CensusWalk$SetupReader", "expect", "(C)Z"⟩ prog_5_method_11_code 2 (some .boolean) :: lw_g) ({ frames := 2, cells := 0, slots := 0, locals := 40 } : Room) G cy L E [.ref (L o), .int a1] u post 0 0 := by
  refine ms_enterI (lv := [(0, .ref (L o)), (1, .int a1)]) (by decide) (Nat.le_of_ble_eq_true rfl) rfl ?_
  intro p e s m args below meth c A C hr hlocks
  unfold wp_X3_expect at h
  refine a_aload_n C dX3_expect_0 rfl 0 rfl rfl ?_
  refine g_3_3 C hE dX3_expect_1 ho kw_2_21 rfl ?_
  have k1 : ms_is E (ms_at E o 3) 6 := ms_wt hE ho rfl (by decide)
  refine a_iload_n C dX3_expect_4 rfl 1 rfl rfl ?_
  refine a_callVI C (c_X6_isSign l G cy L E hE u (ms_at E o 3) a1 k1 _ h) k1 rfl (by decide) kw_4_62 kw_4_63 kw_4_64 kw_1_7 kw_4_65 rfl rfl pd_X6_isSign ⟨(Nat.le_of_ble_eq_true rfl), (Nat.le_of_ble_eq_true rfl)⟩ dX3_expect_5 rfl (Nat.le_of_ble_eq_true rfl) ⟨(Nat.le_of_ble_eq_true rfl), (Nat.le_of_ble_eq_true rfl)⟩ rfl (fun r5 u5 h => ?_)
  refine a_if_ne (tgt := 18) C dX3_expect_8 (by decide) rfl (fun hc => ?_) (fun hc => ?_)
  · replace h := h.2 hc
    refine a_aload_n C dX3_expect_18 rfl 0 rfl rfl ?_
    refine g_3_3 C hE dX3_expect_19 ho kw_2_21 rfl ?_
    refine a_callVV C (c_X6_advance l G cy L E hE u5 (ms_at E o 3) k1 _ h) k1 rfl (by decide) kw_4_53 kw_3_222 kw_3_223 kw_1_7 kw_3_224 rfl rfl pd_X6_advance ⟨(Nat.le_of_ble_eq_true rfl), (Nat.le_of_ble_eq_true rfl)⟩ dX3_expect_22 rfl (Nat.le_of_ble_eq_true rfl) ⟨(Nat.le_of_ble_eq_true rfl), (Nat.le_of_ble_eq_true rfl)⟩ rfl (fun u22 h => ?_)
    refine a_iconst (v := 1) C dX3_expect_25 (by decide) rfl ?_
    exact a_zret C dX3_expect_26 hr hlocks (Nat.le_of_ble_eq_true rfl) (Nat.le_of_ble_eq_true rfl) rfl h
  · replace h := h.1 hc
    refine a_aload_n C dX3_expect_11 rfl 0 rfl rfl ?_
    refine a_bipush (v := (-2)) C dX3_expect_12 (by decide) rfl ?_
    refine a_callVI C (c_X3_fail l G cy L E hE u5 o (-2) ho _ h) ho rfl (by decide) kw_4_49 kw_4_51 kp_14 kw_1_6 kw_4_52 rfl rfl pd_X3_fail ⟨(Nat.le_of_ble_eq_true rfl), (Nat.le_of_ble_eq_true rfl)⟩ dX3_expect_14 rfl (Nat.le_of_ble_eq_true rfl) ⟨(Nat.le_of_ble_eq_true rfl), (Nat.le_of_ble_eq_true rfl)⟩ rfl (fun r14 u14 h => ?_)
    obtain ⟨q17, h⟩ := h
    exact a_zret C dX3_expect_17 hr hlocks (Nat.le_of_ble_eq_true rfl) (Nat.le_of_ble_eq_true rfl) (ms_nz q17) h
