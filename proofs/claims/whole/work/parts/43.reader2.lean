/-! CensusWalk$SetupReader.number(II)I -/
theorem pd_X3_number : (⟨"CensusWalk$SetupReader", "number", "(II)I"⟩ : MethodName).cls = "CensusWalk$SetupReader" ∧ (⟨"CensusWalk$SetupReader", "number", "(II)I"⟩ : MethodName).cls ≠ "java/lang/invoke/MethodHandle" ∧ (⟨"CensusWalk$SetupReader", "number", "(II)I"⟩ : MethodName).cls ≠ "java/lang/invoke/VarHandle" ∧ (parseMethodDescriptor (⟨"CensusWalk$SetupReader", "number", "(II)I"⟩ : MethodName).desc).map (fun d => d.parameters.length) = some 2 := by decide +kernel
def wp_X3_number_38 (E : ms_En) (o : Nat) (a1 : Int32) (a2 : Int32) (post : Int32 → ms_St → Prop)  (u : ms_St)  : Prop := wp_X3_fail E u o (-3) (fun r41 u41 => post (-1) u41)
set_option maxHeartbeats 4000000 in
set_option maxRecDepth 100000 in
theorem c_X3_number_38 {p : Program} {l : Launch} {e : Env} {s : State} {m : MethodId} {args : Array Value} {below : List Frame} {meth : Method} {c : Code} {G : va_G} {cy : Nat → ClassId} {A : Nat → Prop} {L : Nat → Nat} {E : ms_En} (C : ms_Cx p m c cX3_number 4 s args (Cond.code ⟨"CensusWalk$SetupReader", "number", "(II)I"⟩ prog_5_method_12_code 4 (some .int)) "CensusWalk$SetupReader" G cy A) (hr : meth.sig.returnType = (some .int)) (hlocks : meth.locks = false) (hE : ms_WT E) {o : Nat} {a1 : Int32} {a2 : Int32} {post : Int32 → ms_St → Prop}  (ho : ms_is E o 3)  (u : ms_St)   (h : wp_X3_number_38 E o a1 a2 post u ) : ms_At p l e ({ frames := 2, cells := 0, slots := 0, locals := 40 } : Room) s m args below meth c 4 G cy A L 0 0 (ms_QI below args s G cy L E A post 0 0) E u 38 [(0, .ref (L o))] [] := by
  unfold wp_X3_number_38 at h
  refine a_aload_n C dX3_number_38 rfl 0 rfl rfl ?_
  refine a_bipush (v := (-3)) C dX3_number_39 (by decide) rfl ?_
  refine a_callVI C (c_X3_fail l G cy L E hE u o (-3) ho _ h) ho rfl (by decide) kw_4_49 kw_4_51 kp_14 kw_1_6 kw_4_52 rfl rfl pd_X3_fail ⟨(Nat.le_of_ble_eq_true rfl), (Nat.le_of_ble_eq_true rfl)⟩ dX3_number_41 rfl (Nat.le_of_ble_eq_true rfl) ⟨(Nat.le_of_ble_eq_true rfl), (Nat.le_of_ble_eq_true rfl)⟩ rfl (fun r41 u41 h => ?_)
  refine a_pop C dX3_number_44 rfl rfl ?_
  refine a_iconst (v := (-1)) C dX3_number_45 (by decide) rfl ?_
  exact a_iret C dX3_number_46 hr hlocks (Nat.le_of_ble_eq_true rfl) (Nat.le_of_ble_eq_true rfl) h
def wp_X3_number (E : ms_En) (u : ms_St) (o : Nat) (a1 : Int32) (a2 : Int32) (post : Int32 → ms_St → Prop) : Prop := ∀ v7 : Int32, v7 = (ms_I u (ms_at E o 3) 2) → (((ms_I u (ms_at E o 3) 0) = 1 → (v7 < a1 → wp_X3_number_38 E o a1 a2 post u) ∧ (¬ v7 < a1 → (v7 ≤ a2 → wp_X6_advance E u (ms_at E o 3) (fun u51 => post v7 u51)) ∧ (¬ v7 ≤ a2 → wp_X3_number_38 E o a1 a2 post u))) ∧ (¬ (ms_I u (ms_at E o 3) 0) = 1 → wp_X3_fail E u o (-2) (fun r22 u22 => post (-1) u22)))
set_option maxHeartbeats 4000000 in
set_option maxRecDepth 100000 in
theorem c_X3_number (l : Launch) (G : va_G) (cy : Nat → ClassId) (L : Nat → Nat) (E : ms_En) (hE : ms_WT E) (u : ms_St) (o : Nat) (a1 : Int32) (a2 : Int32) (ho : ms_is E o 3) (post : Int32 → ms_St → Prop) (h : wp_X3_number E u o a1 a2 post) : ms_MetI l ⟨"CensusWalk$SetupReader", "number", "(II)I"⟩ (Cond.code ⟨"CensusWalk$SetupReader", "number", "(II)I"⟩ prog_5_method_12_code 4 (some .int) :: lw_g) ({ frames := 2, cells := 0, slots := 0, locals := 40 } : Room) G cy L E [.ref (L o), .int a1, .int a2] u post 0 0 := by
  refine ms_enterI (lv := [(0, .ref (L o)), (1, .int a1), (2, .int a2)]) (by decide) (Nat.le_of_ble_eq_true rfl) rfl ?_
  intro p e s m args below meth c A C hr hlocks
  unfold wp_X3_number at h
  refine a_aload_n C dX3_number_0 rfl 0 rfl rfl ?_
  refine g_3_3 C hE dX3_number_1 ho kw_2_21 rfl ?_
  have k1 : ms_is E (ms_at E o 3) 6 := ms_wt hE ho rfl (by decide)
  refine g_6_2 C dX3_number_4 k1 kw_1_223 rfl ?_
  refine a_nmI (fun v7 e7 => ?_)
  replace h := h v7 e7
  refine a_istore_n (lv' := [(0, .ref (L o)), (1, .int a1), (2, .int a2), (3, .int v7)]) C dX3_number_7 rfl (by decide) [1, 2, 3, 0] rfl rfl ?_
  refine a_aload_n C dX3_number_8 rfl 0 rfl rfl ?_
  refine g_3_3 C hE dX3_number_9 ho kw_2_21 rfl ?_
  refine g_6_0 C dX3_number_12 k1 kw_1_219 rfl ?_
  refine a_iconst (v := 1) C dX3_number_15 (by decide) rfl ?_
  refine a_icmp_eq (tgt := 28) C dX3_number_16 (by decide) rfl (fun hc => ?_) (fun hc => ?_)
  · replace h := h.1 hc
    refine a_iload_n C dX3_number_28 rfl 3 rfl rfl ?_
    refine a_iload_n C dX3_number_29 rfl 1 rfl rfl ?_
    refine a_icmp_lt (tgt := 38) C dX3_number_30 (by decide) rfl (fun hc => ?_) (fun hc => ?_)
    · replace h := h.1 hc
      refine a_sub (lv' := [(0, .ref (L o))]) [0] rfl ?_
      exact c_X3_number_38 C hr hlocks hE ho  u  h
    · replace h := h.2 hc
      refine a_iload_n C dX3_number_33 rfl 3 rfl rfl ?_
      refine a_iload_n C dX3_number_34 rfl 2 rfl rfl ?_
      refine a_icmp_le (tgt := 47) C dX3_number_35 (by decide) rfl (fun hc => ?_) (fun hc => ?_)
      · replace h := h.1 hc
        refine a_aload_n C dX3_number_47 rfl 0 rfl rfl ?_
        refine g_3_3 C hE dX3_number_48 ho kw_2_21 rfl ?_
        refine a_callVV C (c_X6_advance l G cy L E hE u (ms_at E o 3) k1 _ h) k1 rfl (by decide) kw_4_53 kw_3_222 kw_3_223 kw_1_7 kw_3_224 rfl rfl pd_X6_advance ⟨(Nat.le_of_ble_eq_true rfl), (Nat.le_of_ble_eq_true rfl)⟩ dX3_number_51 rfl (Nat.le_of_ble_eq_true rfl) ⟨(Nat.le_of_ble_eq_true rfl), (Nat.le_of_ble_eq_true rfl)⟩ rfl (fun u51 h => ?_)
        refine a_iload_n C dX3_number_54 rfl 3 rfl rfl ?_
        exact a_iret C dX3_number_55 hr hlocks (Nat.le_of_ble_eq_true rfl) (Nat.le_of_ble_eq_true rfl) h
      · replace h := h.2 hc
        refine a_sub (lv' := [(0, .ref (L o))]) [0] rfl ?_
        exact c_X3_number_38 C hr hlocks hE ho  u  h
  · replace h := h.2 hc
    refine a_aload_n C dX3_number_19 rfl 0 rfl rfl ?_
    refine a_bipush (v := (-2)) C dX3_number_20 (by decide) rfl ?_
    refine a_callVI C (c_X3_fail l G cy L E hE u o (-2) ho _ h) ho rfl (by decide) kw_4_49 kw_4_51 kp_14 kw_1_6 kw_4_52 rfl rfl pd_X3_fail ⟨(Nat.le_of_ble_eq_true rfl), (Nat.le_of_ble_eq_true rfl)⟩ dX3_number_22 rfl (Nat.le_of_ble_eq_true rfl) ⟨(Nat.le_of_ble_eq_true rfl), (Nat.le_of_ble_eq_true rfl)⟩ rfl (fun r22 u22 h => ?_)
    refine a_pop C dX3_number_25 rfl rfl ?_
    refine a_iconst (v := (-1)) C dX3_number_26 (by decide) rfl ?_
    exact a_iret C dX3_number_27 hr hlocks (Nat.le_of_ble_eq_true rfl) (Nat.le_of_ble_eq_true rfl) h

/-! CensusWalk$SetupReader.header()Z -/
theorem pd_X3_header : (⟨"CensusWalk$SetupReader", "header", "()Z"⟩ : MethodName).cls = "CensusWalk$SetupReader" ∧ (⟨"CensusWalk$SetupReader", "header", "()Z"⟩ : MethodName).cls ≠ "java/lang/invoke/MethodHandle" ∧ (⟨"CensusWalk$SetupReader", "header", "()Z"⟩ : MethodName).cls ≠ "java/lang/invoke/VarHandle" ∧ (parseMethodDescriptor (⟨"CensusWalk$SetupReader", "header", "()Z"⟩ : MethodName).desc).map (fun d => d.parameters.length) = some 0 := by decide +kernel
def wp_X3_header (E : ms_En) (u : ms_St) (o : Nat) (post : Int32 → ms_St → Prop) : Prop := wp_X6_isWord E u (ms_at E o 3) 1 (fun r6 u6 => (r6 = 0 → wp_X3_fail E u6 o (-2) (fun r15 u15 => (r15 = 0 ∨ r15 = 1) ∧ (post r15 u15))) ∧ (¬ r6 = 0 → wp_X6_advance E u6 (ms_at E o 3) (fun u23 => wp_X3_number E u23 o 1 10 (fun r30 u30 => (r30 = (-1) → post 0 u30) ∧ (¬ r30 = (-1) → wp_X3_expect E (ms_sI u30 (ms_at E o 0) 0 r30) o 59 (fun r52 u52 => (r52 = 0 ∨ r52 = 1) ∧ (post r52 u52)))))))
set_option maxHeartbeats 4000000 in
set_option maxRecDepth 100000 in
theorem c_X3_header (l : Launch) (G : va_G) (cy : Nat → ClassId) (L : Nat → Nat) (E : ms_En) (hE : ms_WT E) (u : ms_St) (o : Nat) (ho : ms_is E o 3) (post : Int32 → ms_St → Prop) (h : wp_X3_header E u o post) : ms_MetI l ⟨"CensusWalk$SetupReader", "header", "()Z"⟩ (Cond.code ⟨"CensusWalk$SetupReader", "header", "()Z"⟩ prog_5_method_3_code 2 (some .boolean) :: lw_g) ({ frames := 5, cells := 0, slots := 0, locals := 107 } : Room) G cy L E [.ref (L o)] u post 0 0 := by
  refine ms_enterI (lv := [(0, .ref (L o))]) (by decide) (Nat.le_of_ble_eq_true rfl) rfl ?_
  intro p e s m args below meth c A C hr hlocks
  unfold wp_X3_header at h
  refine a_aload_n C dX3_header_0 rfl 0 rfl rfl ?_
  refine g_3_3 C hE dX3_header_1 ho kw_2_21 rfl ?_
  have k1 : ms_is E (ms_at E o 3) 6 := ms_wt hE ho rfl (by decide)
  refine a_ldcS (j := 1) C dX3_header_4 rfl rfl rfl rfl ?_
  refine a_callVI C (c_X6_isWord l G cy L E hE u (ms_at E o 3) 1 k1 (by decide) _ h) k1 rfl (by decide) kw_3_237 kw_3_238 kw_3_239 kw_1_7 kw_4_0 rfl rfl pd_X6_isWord ⟨(Nat.le_of_ble_eq_true rfl), (Nat.le_of_ble_eq_true rfl)⟩ dX3_header_6 rfl (Nat.le_of_ble_eq_true rfl) ⟨(Nat.le_of_ble_eq_true rfl), (Nat.le_of_ble_eq_true rfl)⟩ rfl (fun r6 u6 h => ?_)
  refine a_if_ne (tgt := 19) C dX3_header_9 (by decide) rfl (fun hc => ?_) (fun hc => ?_)
  · replace h := h.2 hc
    refine a_aload_n C dX3_header_19 rfl 0 rfl rfl ?_
    refine g_3_3 C hE dX3_header_20 ho kw_2_21 rfl ?_
    refine a_callVV C (c_X6_advance l G cy L E hE u6 (ms_at E o 3) k1 _ h) k1 rfl (by decide) kw_4_53 kw_3_222 kw_3_223 kw_1_7 kw_3_224 rfl rfl pd_X6_advance ⟨(Nat.le_of_ble_eq_true rfl), (Nat.le_of_ble_eq_true rfl)⟩ dX3_header_23 rfl (Nat.le_of_ble_eq_true rfl) ⟨(Nat.le_of_ble_eq_true rfl), (Nat.le_of_ble_eq_true rfl)⟩ rfl (fun u23 h => ?_)
    refine a_aload_n C dX3_header_26 rfl 0 rfl rfl ?_
    refine a_iconst (v := 1) C dX3_header_27 (by decide) rfl ?_
    refine a_bipush (v := 10) C dX3_header_28 (by decide) rfl ?_
    refine a_callVI C (c_X3_number l G cy L E hE u23 o 1 10 ho _ h) ho rfl (by decide) kw_4_54 kw_4_56 kp_15 kw_1_6 kw_4_57 rfl rfl pd_X3_number ⟨(Nat.le_of_ble_eq_true rfl), (Nat.le_of_ble_eq_true rfl)⟩ dX3_header_30 rfl (Nat.le_of_ble_eq_true rfl) ⟨(Nat.le_of_ble_eq_true rfl), (Nat.le_of_ble_eq_true rfl)⟩ rfl (fun r30 u30 h => ?_)
    refine a_istore_n (lv' := [(0, .ref (L o)), (1, .int r30)]) C dX3_header_33 rfl (by decide) [1, 0] rfl rfl ?_
    refine a_iload_n C dX3_header_34 rfl 1 rfl rfl ?_
    refine a_iconst (v := (-1)) C dX3_header_35 (by decide) rfl ?_
    refine a_icmp_ne (tgt := 41) C dX3_header_36 (by decide) rfl (fun hc => ?_) (fun hc => ?_)
    · replace h := h.2 hc
      refine a_aload_n C dX3_header_41 rfl 0 rfl rfl ?_
      refine g_3_0 C hE dX3_header_42 ho kw_2_16 rfl ?_
      have k42 : ms_is E (ms_at E o 0) 7 := ms_wt hE ho rfl (by decide)
      refine a_iload_n C dX3_header_45 rfl 1 rfl rfl ?_
      refine s_7_0 C dX3_header_46 k42 kw_1_167 rfl ?_
      refine a_aload_n C dX3_header_49 rfl 0 rfl rfl ?_
      refine a_bipush (v := 59) C dX3_header_50 (by decide) rfl ?_
      refine a_callVI C (c_X3_expect l G cy L E hE (ms_sI u30 (ms_at E o 0) 0 r30) o 59 ho _ h) ho rfl (by decide) kw_4_58 kw_4_60 kp_16 kw_1_6 kw_4_61 rfl rfl pd_X3_expect ⟨(Nat.le_of_ble_eq_true rfl), (Nat.le_of_ble_eq_true rfl)⟩ dX3_header_52 rfl (Nat.le_of_ble_eq_true rfl) ⟨(Nat.le_of_ble_eq_true rfl), (Nat.le_of_ble_eq_true rfl)⟩ rfl (fun r52 u52 h => ?_)
      obtain ⟨q55, h⟩ := h
      exact a_zret C dX3_header_55 hr hlocks (Nat.le_of_ble_eq_true rfl) (Nat.le_of_ble_eq_true rfl) (ms_nz q55) h
    · replace h := h.1 hc
      refine a_iconst (v := 0) C dX3_header_39 (by decide) rfl ?_
      exact a_zret C dX3_header_40 hr hlocks (Nat.le_of_ble_eq_true rfl) (Nat.le_of_ble_eq_true rfl) rfl h
  · replace h := h.1 hc
    refine a_aload_n C dX3_header_12 rfl 0 rfl rfl ?_
    refine a_bipush (v := (-2)) C dX3_header_13 (by decide) rfl ?_
    refine a_callVI C (c_X3_fail l G cy L E hE u6 o (-2) ho _ h) ho rfl (by decide) kw_4_49 kw_4_51 kp_14 kw_1_6 kw_4_52 rfl rfl pd_X3_fail ⟨(Nat.le_of_ble_eq_true rfl), (Nat.le_of_ble_eq_true rfl)⟩ dX3_header_15 rfl (Nat.le_of_ble_eq_true rfl) ⟨(Nat.le_of_ble_eq_true rfl), (Nat.le_of_ble_eq_true rfl)⟩ rfl (fun r15 u15 h => ?_)
    obtain ⟨q18, h⟩ := h
    exact a_zret C dX3_header_18 hr hlocks (Nat.le_of_ble_eq_true rfl) (Nat.le_of_ble_eq_true rfl) (ms_nz q18) h

/-! CensusWalk$SetupReader.street()Z -/
theorem pd_X3_street : (⟨"CensusWalk$SetupReader", "street", "()Z"⟩ : MethodName).cls = "CensusWalk$SetupReader" ∧ (⟨"CensusWalk$SetupReader", "street", "()Z"⟩ : MethodName).cls ≠ "java/lang/invoke/MethodHandle" ∧ (⟨"CensusWalk$SetupReader", "street", "()Z"⟩ : MethodName).cls ≠ "java/lang/invoke/VarHandle" ∧ (parseMethodDescriptor (⟨"CensusWalk$SetupReader", "street", "()Z"⟩ : MethodName).desc).map (fun d => d.parameters.length) = some 0 := by decide +kernel
def wp_X3_street_111 (E : ms_En) (o : Nat) (post : Int32 → ms_St → Prop)  (u : ms_St) (x1 : Int32) (x2 : Int32) (z0 : Int32) : Prop := (z0 = (-1) → post 0 u) ∧ (¬ z0 = (-1) → wp_X5_add E u (ms_at E (ms_at E o 0) 3) x1 x2 z0 (fun u129 => post 1 u129))
set_option maxHeartbeats 4000000 in
set_option maxRecDepth 100000 in
theorem c_X3_street_111 {p : Program} {l : Launch} {e : Env} {s : State} {m : MethodId} {args : Array Value} {below : List Frame} {meth : Method} {c : Code} {G : va_G} {cy : Nat → ClassId} {A : Nat → Prop} {L : Nat → Nat} {E : ms_En} (C : ms_Cx p m c cX3_street 4 s args (Cond.code ⟨"CensusWalk$SetupReader", "street", "()Z"⟩ prog_5_method_5_code 4 (some .boolean)) "CensusWalk$SetupReader" G cy A) (hr : meth.sig.returnType = (some .boolean)) (hlocks : meth.locks = false) (hE : ms_WT E) {o : Nat} {post : Int32 → ms_St → Prop}  (ho : ms_is E o 3)  (u : ms_St) (x1 : Int32) (x2 : Int32) (z0 : Int32)  (h : wp_X3_street_111 E o post u x1 x2 z0) : ms_At p l e ({ frames := 3, cells := 0, slots := 0, locals := 63 } : Room) s m args below meth c 4 G cy A L 0 0 (ms_QI below args s G cy L E A post 0 0) E u 111 [(0, .ref (L o)), (1, .int x1), (2, .int x2)] [.int z0] := by
  unfold wp_X3_street_111 at h
  refine a_istore_n (lv' := [(0, .ref (L o)), (1, .int x1), (2, .int x2), (3, .int z0)]) C dX3_street_111 rfl (by decide) [1, 2, 3, 0] rfl rfl ?_
  refine a_iload_n C dX3_street_112 rfl 3 rfl rfl ?_
  refine a_iconst (v := (-1)) C dX3_street_113 (by decide) rfl ?_
  refine a_icmp_ne (tgt := 119) C dX3_street_114 (by decide) rfl (fun hc => ?_) (fun hc => ?_)
  · replace h := h.2 hc
    refine a_aload_n C dX3_street_119 rfl 0 rfl rfl ?_
    refine g_3_0 C hE dX3_street_120 ho kw_2_16 rfl ?_
    have k120 : ms_is E (ms_at E o 0) 7 := ms_wt hE ho rfl (by decide)
    refine g_7_3 C hE dX3_street_123 k120 kw_1_177 rfl ?_
    have k123 : ms_is E (ms_at E (ms_at E o 0) 3) 5 := ms_wt hE k120 rfl (by decide)
    refine a_iload_n C dX3_street_126 rfl 1 rfl rfl ?_
    refine a_iload_n C dX3_street_127 rfl 2 rfl rfl ?_
    refine a_iload_n C dX3_street_128 rfl 3 rfl rfl ?_
    refine a_callVV C (c_X5_add l G cy L E hE u (ms_at E (ms_at E o 0) 3) x1 x2 z0 k123 _ h) k123 rfl (by decide) kw_4_75 kw_4_76 kw_4_77 kw_1_3 kw_4_78 rfl rfl pd_X5_add ⟨(Nat.le_of_ble_eq_true rfl), (Nat.le_of_ble_eq_true rfl)⟩ dX3_street_129 rfl (Nat.le_of_ble_eq_true rfl) ⟨(Nat.le_of_ble_eq_true rfl), (Nat.le_of_ble_eq_true rfl)⟩ rfl (fun u129 h => ?_)
    refine a_iconst (v := 1) C dX3_street_132 (by decide) rfl ?_
    exact a_zret C dX3_street_133 hr hlocks (Nat.le_of_ble_eq_true rfl) (Nat.le_of_ble_eq_true rfl) rfl h
  · replace h := h.1 hc
    refine a_iconst (v := 0) C dX3_street_117 (by decide) rfl ?_
    exact a_zret C dX3_street_118 hr hlocks (Nat.le_of_ble_eq_true rfl) (Nat.le_of_ble_eq_true rfl) rfl h
def wp_X3_street_80 (E : ms_En) (o : Nat) (post : Int32 → ms_St → Prop)  (u : ms_St) (x1 : Int32) : Prop := wp_X3_number E u o 0 ((ms_I u (ms_at E o 0) 0) - 1) (fun r91 u91 => (r91 = (-1) → wp_X3_street_111 E o post u91 x1 r91 (-1)) ∧ (¬ r91 = (-1) → wp_X3_number E u91 o 1 99 (fun r108 u108 => wp_X3_street_111 E o post u108 x1 r91 r108)))
set_option maxHeartbeats 4000000 in
set_option maxRecDepth 100000 in
theorem c_X3_street_80 {p : Program} {l : Launch} {e : Env} {s : State} {m : MethodId} {args : Array Value} {below : List Frame} {meth : Method} {c : Code} {G : va_G} {cy : Nat → ClassId} {A : Nat → Prop} {L : Nat → Nat} {E : ms_En} (C : ms_Cx p m c cX3_street 4 s args (Cond.code ⟨"CensusWalk$SetupReader", "street", "()Z"⟩ prog_5_method_5_code 4 (some .boolean)) "CensusWalk$SetupReader" G cy A) (hr : meth.sig.returnType = (some .boolean)) (hlocks : meth.locks = false) (hE : ms_WT E) {o : Nat} {post : Int32 → ms_St → Prop}  (ho : ms_is E o 3)  (u : ms_St) (x1 : Int32)  (h : wp_X3_street_80 E o post u x1) : ms_At p l e ({ frames := 3, cells := 0, slots := 0, locals := 63 } : Room) s m args below meth c 4 G cy A L 0 0 (ms_QI below args s G cy L E A post 0 0) E u 80 [(0, .ref (L o)), (1, .int x1)] [] := by
  unfold wp_X3_street_80 at h
  refine a_aload_n C dX3_street_80 rfl 0 rfl rfl ?_
  refine a_iconst (v := 0) C dX3_street_81 (by decide) rfl ?_
  refine a_aload_n C dX3_street_82 rfl 0 rfl rfl ?_
  refine g_3_0 C hE dX3_street_83 ho kw_2_16 rfl ?_
  have k83 : ms_is E (ms_at E o 0) 7 := ms_wt hE ho rfl (by decide)
  refine g_7_0 C dX3_street_86 k83 kw_1_167 rfl ?_
  refine a_iconst (v := 1) C dX3_street_89 (by decide) rfl ?_
  refine a_isub C dX3_street_90 rfl ?_
  refine a_callVI C (c_X3_number l G cy L E hE u o 0 ((ms_I u (ms_at E o 0) 0) - 1) ho _ h) ho rfl (by decide) kw_4_54 kw_4_56 kp_15 kw_1_6 kw_4_57 rfl rfl pd_X3_number ⟨(Nat.le_of_ble_eq_true rfl), (Nat.le_of_ble_eq_true rfl)⟩ dX3_street_91 rfl (Nat.le_of_ble_eq_true rfl) ⟨(Nat.le_of_ble_eq_true rfl), (Nat.le_of_ble_eq_true rfl)⟩ rfl (fun r91 u91 h => ?_)
  refine a_istore_n (lv' := [(0, .ref (L o)), (1, .int x1), (2, .int r91)]) C dX3_street_94 rfl (by decide) [1, 2, 0] rfl rfl ?_
  refine a_iload_n C dX3_street_95 rfl 2 rfl rfl ?_
  refine a_iconst (v := (-1)) C dX3_street_96 (by decide) rfl ?_
  refine a_icmp_ne (tgt := 104) C dX3_street_97 (by decide) rfl (fun hc => ?_) (fun hc => ?_)
  · replace h := h.2 hc
    refine a_aload_n C dX3_street_104 rfl 0 rfl rfl ?_
    refine a_iconst (v := 1) C dX3_street_105 (by decide) rfl ?_
    refine a_bipush (v := 99) C dX3_street_106 (by decide) rfl ?_
    refine a_callVI C (c_X3_number l G cy L E hE u91 o 1 99 ho _ h) ho rfl (by decide) kw_4_54 kw_4_56 kp_15 kw_1_6 kw_4_57 rfl rfl pd_X3_number ⟨(Nat.le_of_ble_eq_true rfl), (Nat.le_of_ble_eq_true rfl)⟩ dX3_street_108 rfl (Nat.le_of_ble_eq_true rfl) ⟨(Nat.le_of_ble_eq_true rfl), (Nat.le_of_ble_eq_true rfl)⟩ rfl (fun r108 u108 h => ?_)
    exact c_X3_street_111 C hr hlocks hE ho  u108 x1 r91 r108  h
  · replace h := h.1 hc
    refine a_iconst (v := (-1)) C dX3_street_100 (by decide) rfl ?_
    refine a_goto (tgt := 111) C dX3_street_101 (by decide) ?_
    exact c_X3_street_111 C hr hlocks hE ho  u91 x1 r91 (-1)  h
def wp_X3_street (E : ms_En) (u : ms_St) (o : Nat) (post : Int32 → ms_St → Prop) : Prop := ((ms_I u (ms_at E (ms_at E o 0) 3) 0) < 12 → wp_X6_advance E u (ms_at E o 3) (fun u26 => wp_X3_number E u26 o 0 ((ms_I u26 (ms_at E o 0) 0) - 1) (fun r40 u40 => (r40 = (-1) → post 0 u40) ∧ (¬ r40 = (-1) → ((ms_I u40 (ms_at E o 3) 0) = 1 → ((ms_I u40 (ms_at E o 3) 2) = r40 → wp_X3_fail E u40 o (-3) (fun r76 u76 => (r76 = 0 ∨ r76 = 1) ∧ (post r76 u76))) ∧ (¬ (ms_I u40 (ms_at E o 3) 2) = r40 → wp_X3_street_80 E o post u40 r40)) ∧ (¬ (ms_I u40 (ms_at E o 3) 0) = 1 → wp_X3_street_80 E o post u40 r40))))) ∧ (¬ (ms_I u (ms_at E (ms_at E o 0) 3) 0) < 12 → wp_X3_fail E u o (-4) (fun r18 u18 => (r18 = 0 ∨ r18 = 1) ∧ (post r18 u18)))
set_option maxHeartbeats 4000000 in
set_option maxRecDepth 100000 in
theorem c_X3_street (l : Launch) (G : va_G) (cy : Nat → ClassId) (L : Nat → Nat) (E : ms_En) (hE : ms_WT E) (u : ms_St) (o : Nat) (ho : ms_is E o 3) (post : Int32 → ms_St → Prop) (h : wp_X3_street E u o post) : ms_MetI l ⟨"CensusWalk$SetupReader", "street", "()Z"⟩ (Cond.code ⟨"CensusWalk$SetupReader", "street", "()Z"⟩ prog_5_method_5_code 4 (some .boolean) :: lw_g) ({ frames := 3, cells := 0, slots := 0, locals := 63 } : Room) G cy L E [.ref (L o)] u post 0 0 := by
  refine ms_enterI (lv := [(0, .ref (L o))]) (by decide) (Nat.le_of_ble_eq_true rfl) rfl ?_
  intro p e s m args below meth c A C hr hlocks
  unfold wp_X3_street at h
  refine a_aload_n C dX3_street_0 rfl 0 rfl rfl ?_
  refine g_3_0 C hE dX3_street_1 ho kw_2_16 rfl ?_
  have k1 : ms_is E (ms_at E o 0) 7 := ms_wt hE ho rfl (by decide)
  refine g_7_3 C hE dX3_street_4 k1 kw_1_177 rfl ?_
  have k4 : ms_is E (ms_at E (ms_at E o 0) 3) 5 := ms_wt hE k1 rfl (by decide)
  refine g_5_0 C dX3_street_7 k4 kw_1_50 rfl ?_
  refine a_bipush (v := 12) C dX3_street_10 (by decide) rfl ?_
  refine a_icmp_lt (tgt := 22) C dX3_street_12 (by decide) rfl (fun hc => ?_) (fun hc => ?_)
  · replace h := h.1 hc
    refine a_aload_n C dX3_street_22 rfl 0 rfl rfl ?_
    refine g_3_3 C hE dX3_street_23 ho kw_2_21 rfl ?_
    have k23 : ms_is E (ms_at E o 3) 6 := ms_wt hE ho rfl (by decide)
    refine a_callVV C (c_X6_advance l G cy L E hE u (ms_at E o 3) k23 _ h) k23 rfl (by decide) kw_4_53 kw_3_222 kw_3_223 kw_1_7 kw_3_224 rfl rfl pd_X6_advance ⟨(Nat.le_of_ble_eq_true rfl), (Nat.le_of_ble_eq_true rfl)⟩ dX3_street_26 rfl (Nat.le_of_ble_eq_true rfl) ⟨(Nat.le_of_ble_eq_true rfl), (Nat.le_of_ble_eq_true rfl)⟩ rfl (fun u26 h => ?_)
    refine a_aload_n C dX3_street_29 rfl 0 rfl rfl ?_
    refine a_iconst (v := 0) C dX3_street_30 (by decide) rfl ?_
    refine a_aload_n C dX3_street_31 rfl 0 rfl rfl ?_
    refine g_3_0 C hE dX3_street_32 ho kw_2_16 rfl ?_
    refine g_7_0 C dX3_street_35 k1 kw_1_167 rfl ?_
    refine a_iconst (v := 1) C dX3_street_38 (by decide) rfl ?_
    refine a_isub C dX3_street_39 rfl ?_
    refine a_callVI C (c_X3_number l G cy L E hE u26 o 0 ((ms_I u26 (ms_at E o 0) 0) - 1) ho _ h) ho rfl (by decide) kw_4_54 kw_4_56 kp_15 kw_1_6 kw_4_57 rfl rfl pd_X3_number ⟨(Nat.le_of_ble_eq_true rfl), (Nat.le_of_ble_eq_true rfl)⟩ dX3_street_40 rfl (Nat.le_of_ble_eq_true rfl) ⟨(Nat.le_of_ble_eq_true rfl), (Nat.le_of_ble_eq_true rfl)⟩ rfl (fun r40 u40 h => ?_)
    refine a_istore_n (lv' := [(0, .ref (L o)), (1, .int r40)]) C dX3_street_43 rfl (by decide) [1, 0] rfl rfl ?_
    refine a_iload_n C dX3_street_44 rfl 1 rfl rfl ?_
    refine a_iconst (v := (-1)) C dX3_street_45 (by decide) rfl ?_
    refine a_icmp_ne (tgt := 51) C dX3_street_46 (by decide) rfl (fun hc => ?_) (fun hc => ?_)
    · replace h := h.2 hc
      refine a_aload_n C dX3_street_51 rfl 0 rfl rfl ?_
      refine g_3_3 C hE dX3_street_52 ho kw_2_21 rfl ?_
      refine g_6_0 C dX3_street_55 k23 kw_1_219 rfl ?_
      refine a_iconst (v := 1) C dX3_street_58 (by decide) rfl ?_
      refine a_icmp_ne (tgt := 80) C dX3_street_59 (by decide) rfl (fun hc => ?_) (fun hc => ?_)
      · replace h := h.2 hc
        exact c_X3_street_80 C hr hlocks hE ho  u40 r40  h
      · replace h := h.1 hc
        refine a_aload_n C dX3_street_62 rfl 0 rfl rfl ?_
        refine g_3_3 C hE dX3_street_63 ho kw_2_21 rfl ?_
        refine g_6_2 C dX3_street_66 k23 kw_1_223 rfl ?_
        refine a_iload_n C dX3_street_69 rfl 1 rfl rfl ?_
        refine a_icmp_ne (tgt := 80) C dX3_street_70 (by decide) rfl (fun hc => ?_) (fun hc => ?_)
        · replace h := h.2 hc
          exact c_X3_street_80 C hr hlocks hE ho  u40 r40  h
        · replace h := h.1 hc
          refine a_aload_n C dX3_street_73 rfl 0 rfl rfl ?_
          refine a_bipush (v := (-3)) C dX3_street_74 (by decide) rfl ?_
          refine a_callVI C (c_X3_fail l G cy L E hE u40 o (-3) ho _ h) ho rfl (by decide) kw_4_49 kw_4_51 kp_14 kw_1_6 kw_4_52 rfl rfl pd_X3_fail ⟨(Nat.le_of_ble_eq_true rfl), (Nat.le_of_ble_eq_true rfl)⟩ dX3_street_76 rfl (Nat.le_of_ble_eq_true rfl) ⟨(Nat.le_of_ble_eq_true rfl), (Nat.le_of_ble_eq_true rfl)⟩ rfl (fun r76 u76 h => ?_)
          obtain ⟨q79, h⟩ := h
          exact a_zret C dX3_street_79 hr hlocks (Nat.le_of_ble_eq_true rfl) (Nat.le_of_ble_eq_true rfl) (ms_nz q79) h
    · replace h := h.1 hc
      refine a_iconst (v := 0) C dX3_street_49 (by decide) rfl ?_
      exact a_zret C dX3_street_50 hr hlocks (Nat.le_of_ble_eq_true rfl) (Nat.le_of_ble_eq_true rfl) rfl h
  · replace h := h.2 hc
    refine a_aload_n C dX3_street_15 rfl 0 rfl rfl ?_
    refine a_bipush (v := (-4)) C dX3_street_16 (by decide) rfl ?_
    refine a_callVI C (c_X3_fail l G cy L E hE u o (-4) ho _ h) ho rfl (by decide) kw_4_49 kw_4_51 kp_14 kw_1_6 kw_4_52 rfl rfl pd_X3_fail ⟨(Nat.le_of_ble_eq_true rfl), (Nat.le_of_ble_eq_true rfl)⟩ dX3_street_18 rfl (Nat.le_of_ble_eq_true rfl) ⟨(Nat.le_of_ble_eq_true rfl), (Nat.le_of_ble_eq_true rfl)⟩ rfl (fun r18 u18 h => ?_)
    obtain ⟨q21, h⟩ := h
    exact a_zret C dX3_street_21 hr hlocks (Nat.le_of_ble_eq_true rfl) (Nat.le_of_ble_eq_true rfl) (ms_nz q21) h

/-! CensusWalk$SetupReader.house()Z -/
theorem pd_X3_house : (⟨"CensusWalk$SetupReader", "house", "()Z"⟩ : MethodName).cls = "CensusWalk$SetupReader" ∧ (⟨"CensusWalk$SetupReader", "house", "()Z"⟩ : MethodName).cls ≠ "java/lang/invoke/MethodHandle" ∧ (⟨"CensusWalk$SetupReader", "house", "()Z"⟩ : MethodName).cls ≠ "java/lang/invoke/VarHandle" ∧ (parseMethodDescriptor (⟨"CensusWalk$SetupReader", "house", "()Z"⟩ : MethodName).desc).map (fun d => d.parameters.length) = some 0 := by decide +kernel
def wp_X3_house_259 (E : ms_En) (o : Nat) (post : Int32 → ms_St → Prop)  (u : ms_St)  : Prop := post 1 u
set_option maxHeartbeats 4000000 in
set_option maxRecDepth 100000 in
theorem c_X3_house_259 {p : Program} {l : Launch} {e : Env} {s : State} {m : MethodId} {args : Array Value} {below : List Frame} {meth : Method} {c : Code} {G : va_G} {cy : Nat → ClassId} {A : Nat → Prop} {L : Nat → Nat} {E : ms_En} (C : ms_Cx p m c cX3_house 9 s args (Cond.code ⟨"CensusWalk$SetupReader", "house", "()Z"⟩ prog_5_method_6_code 9 (some .boolean)) "CensusWalk$SetupReader" G cy A) (hr : meth.sig.returnType = (some .boolean)) (hlocks : meth.locks = false) (hE : ms_WT E) {o : Nat} {post : Int32 → ms_St → Prop}  (ho : ms_is E o 3)  (u : ms_St)   (h : wp_X3_house_259 E o post u ) : ms_At p l e ({ frames := 5, cells := 0, slots := 0, locals := 107 } : Room) s m args below meth c 9 G cy A L 0 0 (ms_QI below args s G cy L E A post 0 0) E u 259 [] [] := by
  unfold wp_X3_house_259 at h
  refine a_iconst (v := 1) C dX3_house_259 (by decide) rfl ?_
  exact a_zret C dX3_house_260 hr hlocks (Nat.le_of_ble_eq_true rfl) (Nat.le_of_ble_eq_true rfl) rfl h
def wp_X3_house_164 (E : ms_En) (o : Nat) (post : Int32 → ms_St → Prop)  (u : ms_St) (b1 : Nat) (x2 : Int32) (x3 : Int32) (x4 : Int32) (x5 : Int32) (x6 : Int32) (x7 : Int32) (z0 : Int32) : Prop := (z0 = (-1) → post 0 u) ∧ (¬ z0 = (-1) → vp_in x2 16 ∧ (vp_in x2 16 ∧ (∀ w188 : ms_St, w188 = (ms_sI (ms_sI u (ms_at E b1 1) (Int32.toNatClampNeg x2) x3) (ms_at E b1 2) (Int32.toNatClampNeg x2) x4) → (vp_in x2 16 ∧ (vp_in x2 16 ∧ (∀ w204 : ms_St, w204 = (ms_sI (ms_sI w188 (ms_at E b1 3) (Int32.toNatClampNeg x2) x5) (ms_at E b1 4) (Int32.toNatClampNeg x2) x6) → (vp_in x2 16 ∧ (vp_in x2 16 ∧ (∀ w220 : ms_St, w220 = (ms_sI (ms_sI w204 (ms_at E b1 5) (Int32.toNatClampNeg x2) x7) (ms_at E b1 6) (Int32.toNatClampNeg x2) z0) → (wp_X6_isWord E w220 (ms_at E o 3) 4 (fun r232 u232 => vp_in x2 16 ∧ (∀ w240 : ms_St, w240 = (ms_sI (ms_sI u232 (ms_at E b1 7) (Int32.toNatClampNeg x2) (vp_nar .boolean r232)) b1 0 (x2 + 1)) → (vp_in x2 16 ∧ (((ms_I w240 (ms_at E b1 7) (Int32.toNatClampNeg x2)) = 0 → wp_X3_house_259 E o post w240) ∧ (¬ (ms_I w240 (ms_at E b1 7) (Int32.toNatClampNeg x2)) = 0 → wp_X6_advance E w240 (ms_at E o 3) (fun u256 => wp_X3_house_259 E o post u256))))))))))))))))
set_option maxHeartbeats 4000000 in
set_option maxRecDepth 100000 in
theorem c_X3_house_164 {p : Program} {l : Launch} {e : Env} {s : State} {m : MethodId} {args : Array Value} {below : List Frame} {meth : Method} {c : Code} {G : va_G} {cy : Nat → ClassId} {A : Nat → Prop} {L : Nat → Nat} {E : ms_En} (C : ms_Cx p m c cX3_house 9 s args (Cond.code ⟨"CensusWalk$SetupReader", "house", "()Z"⟩ prog_5_method_6_code 9 (some .boolean)) "CensusWalk$SetupReader" G cy A) (hr : meth.sig.returnType = (some .boolean)) (hlocks : meth.locks = false) (hE : ms_WT E) {o : Nat} {post : Int32 → ms_St → Prop}  (ho : ms_is E o 3)  (u : ms_St) (b1 : Nat) (x2 : Int32) (x3 : Int32) (x4 : Int32) (x5 : Int32) (x6 : Int32) (x7 : Int32) (z0 : Int32) (k_b1 : ms_is E b1 0) (h : wp_X3_house_164 E o post u b1 x2 x3 x4 x5 x6 x7 z0) : ms_At p l e ({ frames := 5, cells := 0, slots := 0, locals := 107 } : Room) s m args below meth c 9 G cy A L 0 0 (ms_QI below args s G cy L E A post 0 0) E u 164 [(0, .ref (L o)), (1, .ref (L b1)), (2, .int x2), (3, .int x3), (4, .int x4), (5, .int x5), (6, .int x6), (7, .int x7)] [.int z0] := by
  unfold wp_X3_house_164 at h
  refine a_istore (lv' := [(0, .ref (L o)), (1, .ref (L b1)), (2, .int x2), (3, .int x3), (4, .int x4), (5, .int x5), (6, .int x6), (7, .int x7), (8, .int z0)]) C dX3_house_164 (by decide) [1, 2, 3, 4, 5, 6, 7, 8, 0] rfl rfl ?_
  refine a_iload C dX3_house_166 8 rfl rfl ?_
  refine a_iconst (v := (-1)) C dX3_house_168 (by decide) rfl ?_
  refine a_icmp_ne (tgt := 174) C dX3_house_169 (by decide) rfl (fun hc => ?_) (fun hc => ?_)
  · replace h := h.2 hc
    refine a_aload_n C dX3_house_174 rfl 1 rfl rfl ?_
    refine g_0_1 C hE dX3_house_175 k_b1 kw_1_89 rfl ?_
    have k175 : ms_is E (ms_at E b1 1) 13 := ms_wt hE k_b1 rfl (by decide)
    have n175 : ms_N E (ms_at E b1 1) = 16 := ms_wl hE k_b1 (by decide) (by decide) rfl
    refine a_iload_n C dX3_house_178 rfl 2 rfl rfl ?_
    refine a_iload_n C dX3_house_179 rfl 3 rfl rfl ?_
    obtain ⟨q180, h⟩ := h
    refine a_iast C dX3_house_180 k175 n175 q180 rfl ?_
    refine a_aload_n C dX3_house_181 rfl 1 rfl rfl ?_
    refine g_0_2 C hE dX3_house_182 k_b1 kw_1_93 rfl ?_
    have k182 : ms_is E (ms_at E b1 2) 13 := ms_wt hE k_b1 rfl (by decide)
    have n182 : ms_N E (ms_at E b1 2) = 16 := ms_wl hE k_b1 (by decide) (by decide) rfl
    refine a_iload_n C dX3_house_185 rfl 2 rfl rfl ?_
    refine a_iload C dX3_house_186 4 rfl rfl ?_
    obtain ⟨q188, h⟩ := h
    refine a_iast C dX3_house_188 k182 n182 q188 rfl ?_
    refine a_nmU (fun w188 e188 => ?_)
    replace h := h w188 e188
    refine a_aload_n C dX3_house_189 rfl 1 rfl rfl ?_
    refine g_0_3 C hE dX3_house_190 k_b1 kw_1_96 rfl ?_
    have k190 : ms_is E (ms_at E b1 3) 13 := ms_wt hE k_b1 rfl (by decide)
    have n190 : ms_N E (ms_at E b1 3) = 16 := ms_wl hE k_b1 (by decide) (by decide) rfl
    refine a_iload_n C dX3_house_193 rfl 2 rfl rfl ?_
    refine a_iload C dX3_house_194 5 rfl rfl ?_
    obtain ⟨q196, h⟩ := h
    refine a_iast C dX3_house_196 k190 n190 q196 rfl ?_
    refine a_aload_n C dX3_house_197 rfl 1 rfl rfl ?_
    refine g_0_4 C hE dX3_house_198 k_b1 kw_1_98 rfl ?_
    have k198 : ms_is E (ms_at E b1 4) 13 := ms_wt hE k_b1 rfl (by decide)
    have n198 : ms_N E (ms_at E b1 4) = 16 := ms_wl hE k_b1 (by decide) (by decide) rfl
    refine a_iload_n C dX3_house_201 rfl 2 rfl rfl ?_
    refine a_iload C dX3_house_202 6 rfl rfl ?_
    obtain ⟨q204, h⟩ := h
    refine a_iast C dX3_house_204 k198 n198 q204 rfl ?_
    refine a_nmU (fun w204 e204 => ?_)
    replace h := h w204 e204
    refine a_aload_n C dX3_house_205 rfl 1 rfl rfl ?_
    refine g_0_5 C hE dX3_house_206 k_b1 kw_1_102 rfl ?_
    have k206 : ms_is E (ms_at E b1 5) 13 := ms_wt hE k_b1 rfl (by decide)
    have n206 : ms_N E (ms_at E b1 5) = 16 := ms_wl hE k_b1 (by decide) (by decide) rfl
    refine a_iload_n C dX3_house_209 rfl 2 rfl rfl ?_
    refine a_iload C dX3_house_210 7 rfl rfl ?_
    obtain ⟨q212, h⟩ := h
    refine a_iast C dX3_house_212 k206 n206 q212 rfl ?_
    refine a_aload_n C dX3_house_213 rfl 1 rfl rfl ?_
    refine g_0_6 C hE dX3_house_214 k_b1 kw_1_106 rfl ?_
    have k214 : ms_is E (ms_at E b1 6) 13 := ms_wt hE k_b1 rfl (by decide)
    have n214 : ms_N E (ms_at E b1 6) = 16 := ms_wl hE k_b1 (by decide) (by decide) rfl
    refine a_iload_n C dX3_house_217 rfl 2 rfl rfl ?_
    refine a_iload C dX3_house_218 8 rfl rfl ?_
    obtain ⟨q220, h⟩ := h
    refine a_iast C dX3_house_220 k214 n214 q220 rfl ?_
    refine a_nmU (fun w220 e220 => ?_)
    replace h := h w220 e220
    refine a_aload_n C dX3_house_221 rfl 1 rfl rfl ?_
    refine g_0_7 C hE dX3_house_222 k_b1 kw_1_109 rfl ?_
    have k222 : ms_is E (ms_at E b1 7) 15 := ms_wt hE k_b1 rfl (by decide)
    have n222 : ms_N E (ms_at E b1 7) = 16 := ms_wl hE k_b1 (by decide) (by decide) rfl
    refine a_iload_n C dX3_house_225 rfl 2 rfl rfl ?_
    refine a_aload_n C dX3_house_226 rfl 0 rfl rfl ?_
    refine g_3_3 C hE dX3_house_227 ho kw_2_21 rfl ?_
    have k227 : ms_is E (ms_at E o 3) 6 := ms_wt hE ho rfl (by decide)
    refine a_ldcS (j := 4) C dX3_house_230 rfl rfl rfl rfl ?_
    refine a_callVI C (c_X6_isWord l G cy L E hE w220 (ms_at E o 3) 4 k227 (by decide) _ h) k227 rfl (by decide) kw_3_237 kw_3_238 kw_3_239 kw_1_7 kw_4_0 rfl rfl pd_X6_isWord ⟨(Nat.le_of_ble_eq_true rfl), (Nat.le_of_ble_eq_true rfl)⟩ dX3_house_232 rfl (Nat.le_of_ble_eq_true rfl) ⟨(Nat.le_of_ble_eq_true rfl), (Nat.le_of_ble_eq_true rfl)⟩ rfl (fun r232 u232 h => ?_)
    obtain ⟨q235, h⟩ := h
    refine a_zast C dX3_house_235 k222 n222 q235 rfl ?_
    refine a_aload_n C dX3_house_236 rfl 1 rfl rfl ?_
    refine a_iload_n C dX3_house_237 rfl 2 rfl rfl ?_
    refine a_iconst (v := 1) C dX3_house_238 (by decide) rfl ?_
    refine a_iadd C dX3_house_239 rfl ?_
    refine s_0_0 C dX3_house_240 k_b1 kw_1_85 rfl ?_
    refine a_nmU (fun w240 e240 => ?_)
    replace h := h w240 e240
    refine a_aload_n C dX3_house_243 rfl 1 rfl rfl ?_
    refine g_0_7 C hE dX3_house_244 k_b1 kw_1_109 rfl ?_
    refine a_iload_n C dX3_house_247 rfl 2 rfl rfl ?_
    obtain ⟨q248, h⟩ := h
    refine a_zald C dX3_house_248 k222 n222 q248 rfl ?_
    refine a_if_eq (tgt := 259) C dX3_house_249 (by decide) rfl (fun hc => ?_) (fun hc => ?_)
    · replace h := h.1 hc
      refine a_sub (lv' := []) [] rfl ?_
      exact c_X3_house_259 C hr hlocks hE ho  w240  h
    · replace h := h.2 hc
      refine a_aload_n C dX3_house_252 rfl 0 rfl rfl ?_
      refine g_3_3 C hE dX3_house_253 ho kw_2_21 rfl ?_
      refine a_callVV C (c_X6_advance l G cy L E hE w240 (ms_at E o 3) k227 _ h) k227 rfl (by decide) kw_4_53 kw_3_222 kw_3_223 kw_1_7 kw_3_224 rfl rfl pd_X6_advance ⟨(Nat.le_of_ble_eq_true rfl), (Nat.le_of_ble_eq_true rfl)⟩ dX3_house_256 rfl (Nat.le_of_ble_eq_true rfl) ⟨(Nat.le_of_ble_eq_true rfl), (Nat.le_of_ble_eq_true rfl)⟩ rfl (fun u256 h => ?_)
      refine a_sub (lv' := []) [] rfl ?_
      exact c_X3_house_259 C hr hlocks hE ho  u256  h
  · replace h := h.1 hc
    refine a_iconst (v := 0) C dX3_house_172 (by decide) rfl ?_
    exact a_zret C dX3_house_173 hr hlocks (Nat.le_of_ble_eq_true rfl) (Nat.le_of_ble_eq_true rfl) rfl h
def wp_X3_house_141 (E : ms_En) (o : Nat) (post : Int32 → ms_St → Prop)  (u : ms_St) (b1 : Nat) (x2 : Int32) (x3 : Int32) (x4 : Int32) (x5 : Int32) (x6 : Int32) (z0 : Int32) : Prop := (z0 = (-1) → wp_X3_house_164 E o post u b1 x2 x3 x4 x5 x6 z0 (-1)) ∧ (¬ z0 = (-1) → wp_X3_number E u o (z0 + 1) 1440 (fun r161 u161 => wp_X3_house_164 E o post u161 b1 x2 x3 x4 x5 x6 z0 r161))
set_option maxHeartbeats 4000000 in
set_option maxRecDepth 100000 in
theorem c_X3_house_141 {p : Program} {l : Launch} {e : Env} {s : State} {m : MethodId} {args : Array Value} {below : List Frame} {meth : Method} {c : Code} {G : va_G} {cy : Nat → ClassId} {A : Nat → Prop} {L : Nat → Nat} {E : ms_En} (C : ms_Cx p m c cX3_house 9 s args (Cond.code ⟨"CensusWalk$SetupReader", "house", "()Z"⟩ prog_5_method_6_code 9 (some .boolean)) "CensusWalk$SetupReader" G cy A) (hr : meth.sig.returnType = (some .boolean)) (hlocks : meth.locks = false) (hE : ms_WT E) {o : Nat} {post : Int32 → ms_St → Prop}  (ho : ms_is E o 3)  (u : ms_St) (b1 : Nat) (x2 : Int32) (x3 : Int32) (x4 : Int32) (x5 : Int32) (x6 : Int32) (z0 : Int32) (k_b1 : ms_is E b1 0) (h : wp_X3_house_141 E o post u b1 x2 x3 x4 x5 x6 z0) : ms_At p l e ({ frames := 5, cells := 0, slots := 0, locals := 107 } : Room) s m args below meth c 9 G cy A L 0 0 (ms_QI below args s G cy L E A post 0 0) E u 141 [(0, .ref (L o)), (1, .ref (L b1)), (2, .int x2), (3, .int x3), (4, .int x4), (5, .int x5), (6, .int x6)] [.int z0] := by
  unfold wp_X3_house_141 at h
  refine a_istore (lv' := [(0, .ref (L o)), (1, .ref (L b1)), (2, .int x2), (3, .int x3), (4, .int x4), (5, .int x5), (6, .int x6), (7, .int z0)]) C dX3_house_141 (by decide) [1, 2, 3, 4, 5, 6, 7, 0] rfl rfl ?_
  refine a_iload C dX3_house_143 7 rfl rfl ?_
  refine a_iconst (v := (-1)) C dX3_house_145 (by decide) rfl ?_
  refine a_icmp_ne (tgt := 153) C dX3_house_146 (by decide) rfl (fun hc => ?_) (fun hc => ?_)
  · replace h := h.2 hc
    refine a_aload_n C dX3_house_153 rfl 0 rfl rfl ?_
    refine a_iload C dX3_house_154 7 rfl rfl ?_
    refine a_iconst (v := 1) C dX3_house_156 (by decide) rfl ?_
    refine a_iadd C dX3_house_157 rfl ?_
    refine a_sipush (v := 1440) C dX3_house_158 (by decide) rfl ?_
    refine a_callVI C (c_X3_number l G cy L E hE u o (z0 + 1) 1440 ho _ h) ho rfl (by decide) kw_4_54 kw_4_56 kp_15 kw_1_6 kw_4_57 rfl rfl pd_X3_number ⟨(Nat.le_of_ble_eq_true rfl), (Nat.le_of_ble_eq_true rfl)⟩ dX3_house_161 rfl (Nat.le_of_ble_eq_true rfl) ⟨(Nat.le_of_ble_eq_true rfl), (Nat.le_of_ble_eq_true rfl)⟩ rfl (fun r161 u161 h => ?_)
    exact c_X3_house_164 C hr hlocks hE ho  u161 b1 x2 x3 x4 x5 x6 z0 r161 k_b1 h
  · replace h := h.1 hc
    refine a_iconst (v := (-1)) C dX3_house_149 (by decide) rfl ?_
    refine a_goto (tgt := 164) C dX3_house_150 (by decide) ?_
    exact c_X3_house_164 C hr hlocks hE ho  u b1 x2 x3 x4 x5 x6 z0 (-1) k_b1 h
def wp_X3_house_121 (E : ms_En) (o : Nat) (post : Int32 → ms_St → Prop)  (u : ms_St) (b1 : Nat) (x2 : Int32) (x3 : Int32) (x4 : Int32) (x5 : Int32) (z0 : Int32) : Prop := (z0 = (-1) → wp_X3_house_141 E o post u b1 x2 x3 x4 x5 z0 (-1)) ∧ (¬ z0 = (-1) → wp_X3_number E u o 0 1439 (fun r138 u138 => wp_X3_house_141 E o post u138 b1 x2 x3 x4 x5 z0 r138))
set_option maxHeartbeats 4000000 in
set_option maxRecDepth 100000 in
theorem c_X3_house_121 {p : Program} {l : Launch} {e : Env} {s : State} {m : MethodId} {args : Array Value} {below : List Frame} {meth : Method} {c : Code} {G : va_G} {cy : Nat → ClassId} {A : Nat → Prop} {L : Nat → Nat} {E : ms_En} (C : ms_Cx p m c cX3_house 9 s args (Cond.code ⟨"CensusWalk$SetupReader", "house", "()Z"⟩ prog_5_method_6_code 9 (some .boolean)) "CensusWalk$SetupReader" G cy A) (hr : meth.sig.returnType = (some .boolean)) (hlocks : meth.locks = false) (hE : ms_WT E) {o : Nat} {post : Int32 → ms_St → Prop}  (ho : ms_is E o 3)  (u : ms_St) (b1 : Nat) (x2 : Int32) (x3 : Int32) (x4 : Int32) (x5 : Int32) (z0 : Int32) (k_b1 : ms_is E b1 0) (h : wp_X3_house_121 E o post u b1 x2 x3 x4 x5 z0) : ms_At p l e ({ frames := 5, cells := 0, slots := 0, locals := 107 } : Room) s m args below meth c 9 G cy A L 0 0 (ms_QI below args s G cy L E A post 0 0) E u 121 [(0, .ref (L o)), (1, .ref (L b1)), (2, .int x2), (3, .int x3), (4, .int x4), (5, .int x5)] [.int z0] := by
  unfold wp_X3_house_121 at h
  refine a_istore (lv' := [(0, .ref (L o)), (1, .ref (L b1)), (2, .int x2), (3, .int x3), (4, .int x4), (5, .int x5), (6, .int z0)]) C dX3_house_121 (by decide) [1, 2, 3, 4, 5, 6, 0] rfl rfl ?_
  refine a_iload C dX3_house_123 6 rfl rfl ?_
  refine a_iconst (v := (-1)) C dX3_house_125 (by decide) rfl ?_
  refine a_icmp_ne (tgt := 133) C dX3_house_126 (by decide) rfl (fun hc => ?_) (fun hc => ?_)
  · replace h := h.2 hc
    refine a_aload_n C dX3_house_133 rfl 0 rfl rfl ?_
    refine a_iconst (v := 0) C dX3_house_134 (by decide) rfl ?_
    refine a_sipush (v := 1439) C dX3_house_135 (by decide) rfl ?_
    refine a_callVI C (c_X3_number l G cy L E hE u o 0 1439 ho _ h) ho rfl (by decide) kw_4_54 kw_4_56 kp_15 kw_1_6 kw_4_57 rfl rfl pd_X3_number ⟨(Nat.le_of_ble_eq_true rfl), (Nat.le_of_ble_eq_true rfl)⟩ dX3_house_138 rfl (Nat.le_of_ble_eq_true rfl) ⟨(Nat.le_of_ble_eq_true rfl), (Nat.le_of_ble_eq_true rfl)⟩ rfl (fun r138 u138 h => ?_)
    exact c_X3_house_141 C hr hlocks hE ho  u138 b1 x2 x3 x4 x5 z0 r138 k_b1 h
  · replace h := h.1 hc
    refine a_iconst (v := (-1)) C dX3_house_129 (by decide) rfl ?_
    refine a_goto (tgt := 141) C dX3_house_130 (by decide) ?_
    exact c_X3_house_141 C hr hlocks hE ho  u b1 x2 x3 x4 x5 z0 (-1) k_b1 h
def wp_X3_house_102 (E : ms_En) (o : Nat) (post : Int32 → ms_St → Prop)  (u : ms_St) (b1 : Nat) (x2 : Int32) (x3 : Int32) (x4 : Int32) (z0 : Int32) : Prop := (z0 = (-1) → wp_X3_house_121 E o post u b1 x2 x3 x4 z0 (-1)) ∧ (¬ z0 = (-1) → wp_X3_number E u o 0 20 (fun r118 u118 => wp_X3_house_121 E o post u118 b1 x2 x3 x4 z0 r118))
set_option maxHeartbeats 4000000 in
set_option maxRecDepth 100000 in
theorem c_X3_house_102 {p : Program} {l : Launch} {e : Env} {s : State} {m : MethodId} {args : Array Value} {below : List Frame} {meth : Method} {c : Code} {G : va_G} {cy : Nat → ClassId} {A : Nat → Prop} {L : Nat → Nat} {E : ms_En} (C : ms_Cx p m c cX3_house 9 s args (Cond.code ⟨"CensusWalk$SetupReader", "house", "()Z"⟩ prog_5_method_6_code 9 (some .boolean)) "CensusWalk$SetupReader" G cy A) (hr : meth.sig.returnType = (some .boolean)) (hlocks : meth.locks = false) (hE : ms_WT E) {o : Nat} {post : Int32 → ms_St → Prop}  (ho : ms_is E o 3)  (u : ms_St) (b1 : Nat) (x2 : Int32) (x3 : Int32) (x4 : Int32) (z0 : Int32) (k_b1 : ms_is E b1 0) (h : wp_X3_house_102 E o post u b1 x2 x3 x4 z0) : ms_At p l e ({ frames := 5, cells := 0, slots := 0, locals := 107 } : Room) s m args below meth c 9 G cy A L 0 0 (ms_QI below args s G cy L E A post 0 0) E u 102 [(0, .ref (L o)), (1, .ref (L b1)), (2, .int x2), (3, .int x3), (4, .int x4)] [.int z0] := by
  unfold wp_X3_house_102 at h
  refine a_istore (lv' := [(0, .ref (L o)), (1, .ref (L b1)), (2, .int x2), (3, .int x3), (4, .int x4), (5, .int z0)]) C dX3_house_102 (by decide) [1, 2, 3, 4, 5, 0] rfl rfl ?_
  refine a_iload C dX3_house_104 5 rfl rfl ?_
  refine a_iconst (v := (-1)) C dX3_house_106 (by decide) rfl ?_
  refine a_icmp_ne (tgt := 114) C dX3_house_107 (by decide) rfl (fun hc => ?_) (fun hc => ?_)
  · replace h := h.2 hc
    refine a_aload_n C dX3_house_114 rfl 0 rfl rfl ?_
    refine a_iconst (v := 0) C dX3_house_115 (by decide) rfl ?_
    refine a_bipush (v := 20) C dX3_house_116 (by decide) rfl ?_
    refine a_callVI C (c_X3_number l G cy L E hE u o 0 20 ho _ h) ho rfl (by decide) kw_4_54 kw_4_56 kp_15 kw_1_6 kw_4_57 rfl rfl pd_X3_number ⟨(Nat.le_of_ble_eq_true rfl), (Nat.le_of_ble_eq_true rfl)⟩ dX3_house_118 rfl (Nat.le_of_ble_eq_true rfl) ⟨(Nat.le_of_ble_eq_true rfl), (Nat.le_of_ble_eq_true rfl)⟩ rfl (fun r118 u118 h => ?_)
    exact c_X3_house_121 C hr hlocks hE ho  u118 b1 x2 x3 x4 z0 r118 k_b1 h
  · replace h := h.1 hc
    refine a_iconst (v := (-1)) C dX3_house_110 (by decide) rfl ?_
    refine a_goto (tgt := 121) C dX3_house_111 (by decide) ?_
    exact c_X3_house_121 C hr hlocks hE ho  u b1 x2 x3 x4 z0 (-1) k_b1 h
def wp_X3_house (E : ms_En) (u : ms_St) (o : Nat) (post : Int32 → ms_St → Prop) : Prop := ∀ v12 : Int32, v12 = (ms_I u (ms_at E (ms_at E o 0) 4) 0) → ((v12 < 16 → wp_X6_advance E u (ms_at E o 3) (fun u30 => wp_X3_number E u30 o 0 ((ms_I u30 (ms_at E (ms_at E o 0) 3) 0) - 1) (fun r47 u47 => wp_X5_has E u47 (ms_at E (ms_at E o 0) 3) r47 (fun r59 u59 => (r59 = 0 → post 0 u59) ∧ (¬ r59 = 0 → vp_in r47 12 ∧ (wp_X3_number E u59 o 0 (ms_I u59 (ms_at E (ms_at E (ms_at E o 0) 3) 3) (Int32.toNatClampNeg r47)) (fun r81 u81 => (r81 = (-1) → wp_X3_house_102 E o post u81 (ms_at E (ms_at E o 0) 4) v12 r47 r81 (-1)) ∧ (¬ r81 = (-1) → wp_X3_number E u81 o 0 1 (fun r99 u99 => wp_X3_house_102 E o post u99 (ms_at E (ms_at E o 0) 4) v12 r47 r81 r99))))))))) ∧ (¬ v12 < 16 → wp_X3_fail E u o (-4) (fun r22 u22 => (r22 = 0 ∨ r22 = 1) ∧ (post r22 u22))))
set_option maxHeartbeats 4000000 in
set_option maxRecDepth 100000 in
theorem c_X3_house (l : Launch) (G : va_G) (cy : Nat → ClassId) (L : Nat → Nat) (E : ms_En) (hE : ms_WT E) (u : ms_St) (o : Nat) (ho : ms_is E o 3) (post : Int32 → ms_St → Prop) (h : wp_X3_house E u o post) : ms_MetI l ⟨"CensusWalk$SetupReader", "house", "()Z"⟩ (Cond.code ⟨"CensusWalk$SetupReader", "house", "()Z"⟩ prog_5_method_6_code 9 (some .boolean) :: lw_g) ({ frames := 5, cells := 0, slots := 0, locals := 107 } : Room) G cy L E [.ref (L o)] u post 0 0 := by
  refine ms_enterI (lv := [(0, .ref (L o))]) (by decide) (Nat.le_of_ble_eq_true rfl) rfl ?_
  intro p e s m args below meth c A C hr hlocks
  unfold wp_X3_house at h
  refine a_aload_n C dX3_house_0 rfl 0 rfl rfl ?_
  refine g_3_0 C hE dX3_house_1 ho kw_2_16 rfl ?_
  have k1 : ms_is E (ms_at E o 0) 7 := ms_wt hE ho rfl (by decide)
  refine g_7_4 C hE dX3_house_4 k1 kw_1_180 rfl ?_
  have k4 : ms_is E (ms_at E (ms_at E o 0) 4) 0 := ms_wt hE k1 rfl (by decide)
  refine a_astore_n (lv' := [(0, .ref (L o)), (1, .ref (L (ms_at E (ms_at E o 0) 4)))]) C dX3_house_7 rfl (by decide) [1, 0] rfl rfl ?_
  refine a_aload_n C dX3_house_8 rfl 1 rfl rfl ?_
  refine g_0_0 C dX3_house_9 k4 kw_1_85 rfl ?_
  refine a_nmI (fun v12 e12 => ?_)
  replace h := h v12 e12
  refine a_istore_n (lv' := [(0, .ref (L o)), (1, .ref (L (ms_at E (ms_at E o 0) 4))), (2, .int v12)]) C dX3_house_12 rfl (by decide) [1, 2, 0] rfl rfl ?_
  refine a_iload_n C dX3_house_13 rfl 2 rfl rfl ?_
  refine a_bipush (v := 16) C dX3_house_14 (by decide) rfl ?_
  refine a_icmp_lt (tgt := 26) C dX3_house_16 (by decide) rfl (fun hc => ?_) (fun hc => ?_)
  · replace h := h.1 hc
    refine a_aload_n C dX3_house_26 rfl 0 rfl rfl ?_
    refine g_3_3 C hE dX3_house_27 ho kw_2_21 rfl ?_
    have k27 : ms_is E (ms_at E o 3) 6 := ms_wt hE ho rfl (by decide)
    refine a_callVV C (c_X6_advance l G cy L E hE u (ms_at E o 3) k27 _ h) k27 rfl (by decide) kw_4_53 kw_3_222 kw_3_223 kw_1_7 kw_3_224 rfl rfl pd_X6_advance ⟨(Nat.le_of_ble_eq_true rfl), (Nat.le_of_ble_eq_true rfl)⟩ dX3_house_30 rfl (Nat.le_of_ble_eq_true rfl) ⟨(Nat.le_of_ble_eq_true rfl), (Nat.le_of_ble_eq_true rfl)⟩ rfl (fun u30 h => ?_)
    refine a_aload_n C dX3_house_33 rfl 0 rfl rfl ?_
    refine a_iconst (v := 0) C dX3_house_34 (by decide) rfl ?_
    refine a_aload_n C dX3_house_35 rfl 0 rfl rfl ?_
    refine g_3_0 C hE dX3_house_36 ho kw_2_16 rfl ?_
    refine g_7_3 C hE dX3_house_39 k1 kw_1_177 rfl ?_
    have k39 : ms_is E (ms_at E (ms_at E o 0) 3) 5 := ms_wt hE k1 rfl (by decide)
    refine g_5_0 C dX3_house_42 k39 kw_1_50 rfl ?_
    refine a_iconst (v := 1) C dX3_house_45 (by decide) rfl ?_
    refine a_isub C dX3_house_46 rfl ?_
    refine a_callVI C (c_X3_number l G cy L E hE u30 o 0 ((ms_I u30 (ms_at E (ms_at E o 0) 3) 0) - 1) ho _ h) ho rfl (by decide) kw_4_54 kw_4_56 kp_15 kw_1_6 kw_4_57 rfl rfl pd_X3_number ⟨(Nat.le_of_ble_eq_true rfl), (Nat.le_of_ble_eq_true rfl)⟩ dX3_house_47 rfl (Nat.le_of_ble_eq_true rfl) ⟨(Nat.le_of_ble_eq_true rfl), (Nat.le_of_ble_eq_true rfl)⟩ rfl (fun r47 u47 h => ?_)
    refine a_istore_n (lv' := [(0, .ref (L o)), (1, .ref (L (ms_at E (ms_at E o 0) 4))), (2, .int v12), (3, .int r47)]) C dX3_house_50 rfl (by decide) [1, 2, 3, 0] rfl rfl ?_
    refine a_aload_n C dX3_house_51 rfl 0 rfl rfl ?_
    refine g_3_0 C hE dX3_house_52 ho kw_2_16 rfl ?_
    refine g_7_3 C hE dX3_house_55 k1 kw_1_177 rfl ?_
    refine a_iload_n C dX3_house_58 rfl 3 rfl rfl ?_
    refine a_callVI C (c_X5_has l G cy L E hE u47 (ms_at E (ms_at E o 0) 3) r47 k39 _ h) k39 rfl (by decide) kw_4_84 kw_3_43 kw_3_44 kw_1_3 kw_3_45 rfl rfl pd_X5_has ⟨(Nat.le_of_ble_eq_true rfl), (Nat.le_of_ble_eq_true rfl)⟩ dX3_house_59 rfl (Nat.le_of_ble_eq_true rfl) ⟨(Nat.le_of_ble_eq_true rfl), (Nat.le_of_ble_eq_true rfl)⟩ rfl (fun r59 u59 h => ?_)
    refine a_if_ne (tgt := 67) C dX3_house_62 (by decide) rfl (fun hc => ?_) (fun hc => ?_)
    · replace h := h.2 hc
      refine a_aload_n C dX3_house_67 rfl 0 rfl rfl ?_
      refine a_iconst (v := 0) C dX3_house_68 (by decide) rfl ?_
      refine a_aload_n C dX3_house_69 rfl 0 rfl rfl ?_
      refine g_3_0 C hE dX3_house_70 ho kw_2_16 rfl ?_
      refine g_7_3 C hE dX3_house_73 k1 kw_1_177 rfl ?_
      refine g_5_3 C hE dX3_house_76 k39 kw_1_58 rfl ?_
      have k76 : ms_is E (ms_at E (ms_at E (ms_at E o 0) 3) 3) 13 := ms_wt hE k39 rfl (by decide)
      have n76 : ms_N E (ms_at E (ms_at E (ms_at E o 0) 3) 3) = 12 := ms_wl hE k39 (by decide) (by decide) rfl
      refine a_iload_n C dX3_house_79 rfl 3 rfl rfl ?_
      obtain ⟨q80, h⟩ := h
      refine a_iald C dX3_house_80 k76 n76 q80 rfl ?_
      refine a_callVI C (c_X3_number l G cy L E hE u59 o 0 (ms_I u59 (ms_at E (ms_at E (ms_at E o 0) 3) 3) (Int32.toNatClampNeg r47)) ho _ h) ho rfl (by decide) kw_4_54 kw_4_56 kp_15 kw_1_6 kw_4_57 rfl rfl pd_X3_number ⟨(Nat.le_of_ble_eq_true rfl), (Nat.le_of_ble_eq_true rfl)⟩ dX3_house_81 rfl (Nat.le_of_ble_eq_true rfl) ⟨(Nat.le_of_ble_eq_true rfl), (Nat.le_of_ble_eq_true rfl)⟩ rfl (fun r81 u81 h => ?_)
      refine a_istore (lv' := [(0, .ref (L o)), (1, .ref (L (ms_at E (ms_at E o 0) 4))), (2, .int v12), (3, .int r47), (4, .int r81)]) C dX3_house_84 (by decide) [1, 2, 3, 4, 0] rfl rfl ?_
      refine a_iload C dX3_house_86 4 rfl rfl ?_
      refine a_iconst (v := (-1)) C dX3_house_88 (by decide) rfl ?_
      refine a_icmp_ne (tgt := 96) C dX3_house_89 (by decide) rfl (fun hc => ?_) (fun hc => ?_)
      · replace h := h.2 hc
        refine a_aload_n C dX3_house_96 rfl 0 rfl rfl ?_
        refine a_iconst (v := 0) C dX3_house_97 (by decide) rfl ?_
        refine a_iconst (v := 1) C dX3_house_98 (by decide) rfl ?_
        refine a_callVI C (c_X3_number l G cy L E hE u81 o 0 1 ho _ h) ho rfl (by decide) kw_4_54 kw_4_56 kp_15 kw_1_6 kw_4_57 rfl rfl pd_X3_number ⟨(Nat.le_of_ble_eq_true rfl), (Nat.le_of_ble_eq_true rfl)⟩ dX3_house_99 rfl (Nat.le_of_ble_eq_true rfl) ⟨(Nat.le_of_ble_eq_true rfl), (Nat.le_of_ble_eq_true rfl)⟩ rfl (fun r99 u99 h => ?_)
        exact c_X3_house_102 C hr hlocks hE ho  u99 (ms_at E (ms_at E o 0) 4) v12 r47 r81 r99 k4 h
      · replace h := h.1 hc
        refine a_iconst (v := (-1)) C dX3_house_92 (by decide) rfl ?_
        refine a_goto (tgt := 102) C dX3_house_93 (by decide) ?_
        exact c_X3_house_102 C hr hlocks hE ho  u81 (ms_at E (ms_at E o 0) 4) v12 r47 r81 (-1) k4 h
    · replace h := h.1 hc
      refine a_iconst (v := 0) C dX3_house_65 (by decide) rfl ?_
      exact a_zret C dX3_house_66 hr hlocks (Nat.le_of_ble_eq_true rfl) (Nat.le_of_ble_eq_true rfl) rfl h
  · replace h := h.2 hc
    refine a_aload_n C dX3_house_19 rfl 0 rfl rfl ?_
    refine a_bipush (v := (-4)) C dX3_house_20 (by decide) rfl ?_
    refine a_callVI C (c_X3_fail l G cy L E hE u o (-4) ho _ h) ho rfl (by decide) kw_4_49 kw_4_51 kp_14 kw_1_6 kw_4_52 rfl rfl pd_X3_fail ⟨(Nat.le_of_ble_eq_true rfl), (Nat.le_of_ble_eq_true rfl)⟩ dX3_house_22 rfl (Nat.le_of_ble_eq_true rfl) ⟨(Nat.le_of_ble_eq_true rfl), (Nat.le_of_ble_eq_true rfl)⟩ rfl (fun r22 u22 h => ?_)
    obtain ⟨q25, h⟩ := h
    exact a_zret C dX3_house_25 hr hlocks (Nat.le_of_ble_eq_true rfl) (Nat.le_of_ble_eq_true rfl) (ms_nz q25) h

/-! CensusWalk$SetupReader.walker()Z -/
theorem pd_X3_walker : (⟨"CensusWalk$SetupReader", "walker", "()Z"⟩ : MethodName).cls = "CensusWalk$SetupReader" ∧ (⟨"CensusWalk$SetupReader", "walker", "()Z"⟩ : MethodName).cls ≠ "java/lang/invoke/MethodHandle" ∧ (⟨"CensusWalk$SetupReader", "walker", "()Z"⟩ : MethodName).cls ≠ "java/lang/invoke/VarHandle" ∧ (parseMethodDescriptor (⟨"CensusWalk$SetupReader", "walker", "()Z"⟩ : MethodName).desc).map (fun d => d.parameters.length) = some 0 := by decide +kernel
def wp_X3_walker_60 (E : ms_En) (o : Nat) (post : Int32 → ms_St → Prop)  (u : ms_St) (x1 : Int32) (z0 : Int32) : Prop := (z0 = (-1) → post 0 u) ∧ (¬ z0 = (-1) → wp_X9_add E u (ms_at E (ms_at E o 0) 5) x1 z0 (fun u77 => post 1 u77))
set_option maxHeartbeats 4000000 in
set_option maxRecDepth 100000 in
theorem c_X3_walker_60 {p : Program} {l : Launch} {e : Env} {s : State} {m : MethodId} {args : Array Value} {below : List Frame} {meth : Method} {c : Code} {G : va_G} {cy : Nat → ClassId} {A : Nat → Prop} {L : Nat → Nat} {E : ms_En} (C : ms_Cx p m c cX3_walker 3 s args (Cond.code ⟨"CensusWalk$SetupReader", "walker", "()Z"⟩ prog_5_method_7_code 3 (some .boolean)) "CensusWalk$SetupReader" G cy A) (hr : meth.sig.returnType = (some .boolean)) (hlocks : meth.locks = false) (hE : ms_WT E) {o : Nat} {post : Int32 → ms_St → Prop}  (ho : ms_is E o 3)  (u : ms_St) (x1 : Int32) (z0 : Int32)  (h : wp_X3_walker_60 E o post u x1 z0) : ms_At p l e ({ frames := 3, cells := 0, slots := 0, locals := 63 } : Room) s m args below meth c 3 G cy A L 0 0 (ms_QI below args s G cy L E A post 0 0) E u 60 [(0, .ref (L o)), (1, .int x1)] [.int z0] := by
  unfold wp_X3_walker_60 at h
  refine a_istore_n (lv' := [(0, .ref (L o)), (1, .int x1), (2, .int z0)]) C dX3_walker_60 rfl (by decide) [1, 2, 0] rfl rfl ?_
  refine a_iload_n C dX3_walker_61 rfl 2 rfl rfl ?_
  refine a_iconst (v := (-1)) C dX3_walker_62 (by decide) rfl ?_
  refine a_icmp_ne (tgt := 68) C dX3_walker_63 (by decide) rfl (fun hc => ?_) (fun hc => ?_)
  · replace h := h.2 hc
    refine a_aload_n C dX3_walker_68 rfl 0 rfl rfl ?_
    refine g_3_0 C hE dX3_walker_69 ho kw_2_16 rfl ?_
    have k69 : ms_is E (ms_at E o 0) 7 := ms_wt hE ho rfl (by decide)
    refine g_7_5 C hE dX3_walker_72 k69 kw_1_188 rfl ?_
    have k72 : ms_is E (ms_at E (ms_at E o 0) 5) 9 := ms_wt hE k69 rfl (by decide)
    refine a_iload_n C dX3_walker_75 rfl 1 rfl rfl ?_
    refine a_iload_n C dX3_walker_76 rfl 2 rfl rfl ?_
    refine a_callVV C (c_X9_add l G cy L E hE u (ms_at E (ms_at E o 0) 5) x1 z0 k72 _ h) k72 rfl (by decide) kw_4_91 kw_4_92 kw_4_93 kw_1_5 kw_4_94 rfl rfl pd_X9_add ⟨(Nat.le_of_ble_eq_true rfl), (Nat.le_of_ble_eq_true rfl)⟩ dX3_walker_77 rfl (Nat.le_of_ble_eq_true rfl) ⟨(Nat.le_of_ble_eq_true rfl), (Nat.le_of_ble_eq_true rfl)⟩ rfl (fun u77 h => ?_)
    refine a_iconst (v := 1) C dX3_walker_80 (by decide) rfl ?_
    exact a_zret C dX3_walker_81 hr hlocks (Nat.le_of_ble_eq_true rfl) (Nat.le_of_ble_eq_true rfl) rfl h
  · replace h := h.1 hc
    refine a_iconst (v := 0) C dX3_walker_66 (by decide) rfl ?_
    exact a_zret C dX3_walker_67 hr hlocks (Nat.le_of_ble_eq_true rfl) (Nat.le_of_ble_eq_true rfl) rfl h
def wp_X3_walker (E : ms_En) (u : ms_St) (o : Nat) (post : Int32 → ms_St → Prop) : Prop := ((ms_I u (ms_at E (ms_at E o 0) 5) 0) < 3 → wp_X6_advance E u (ms_at E o 3) (fun u25 => wp_X3_number E u25 o 0 ((ms_I u25 (ms_at E o 0) 0) - 1) (fun r39 u39 => (r39 = (-1) → wp_X3_walker_60 E o post u39 r39 (-1)) ∧ (¬ r39 = (-1) → wp_X3_number E u39 o 0 1440 (fun r57 u57 => wp_X3_walker_60 E o post u57 r39 r57))))) ∧ (¬ (ms_I u (ms_at E (ms_at E o 0) 5) 0) < 3 → wp_X3_fail E u o (-4) (fun r17 u17 => (r17 = 0 ∨ r17 = 1) ∧ (post r17 u17)))
set_option maxHeartbeats 4000000 in
set_option maxRecDepth 100000 in
theorem c_X3_walker (l : Launch) (G : va_G) (cy : Nat → ClassId) (L : Nat → Nat) (E : ms_En) (hE : ms_WT E) (u : ms_St) (o : Nat) (ho : ms_is E o 3) (post : Int32 → ms_St → Prop) (h : wp_X3_walker E u o post) : ms_MetI l ⟨"CensusWalk$SetupReader", "walker", "()Z"⟩ (Cond.code ⟨"CensusWalk$SetupReader", "walker", "()Z"⟩ prog_5_method_7_code 3 (some .boolean) :: lw_g) ({ frames := 3, cells := 0, slots := 0, locals := 63 } : Room) G cy L E [.ref (L o)] u post 0 0 := by
  refine ms_enterI (lv := [(0, .ref (L o))]) (by decide) (Nat.le_of_ble_eq_true rfl) rfl ?_
  intro p e s m args below meth c A C hr hlocks
  unfold wp_X3_walker at h
  refine a_aload_n C dX3_walker_0 rfl 0 rfl rfl ?_
  refine g_3_0 C hE dX3_walker_1 ho kw_2_16 rfl ?_
  have k1 : ms_is E (ms_at E o 0) 7 := ms_wt hE ho rfl (by decide)
  refine g_7_5 C hE dX3_walker_4 k1 kw_1_188 rfl ?_
  have k4 : ms_is E (ms_at E (ms_at E o 0) 5) 9 := ms_wt hE k1 rfl (by decide)
  refine g_9_0 C dX3_walker_7 k4 kw_1_141 rfl ?_
  refine a_iconst (v := 3) C dX3_walker_10 (by decide) rfl ?_
  refine a_icmp_lt (tgt := 21) C dX3_walker_11 (by decide) rfl (fun hc => ?_) (fun hc => ?_)
  · replace h := h.1 hc
    refine a_aload_n C dX3_walker_21 rfl 0 rfl rfl ?_
    refine g_3_3 C hE dX3_walker_22 ho kw_2_21 rfl ?_
    have k22 : ms_is E (ms_at E o 3) 6 := ms_wt hE ho rfl (by decide)
    refine a_callVV C (c_X6_advance l G cy L E hE u (ms_at E o 3) k22 _ h) k22 rfl (by decide) kw_4_53 kw_3_222 kw_3_223 kw_1_7 kw_3_224 rfl rfl pd_X6_advance ⟨(Nat.le_of_ble_eq_true rfl), (Nat.le_of_ble_eq_true rfl)⟩ dX3_walker_25 rfl (Nat.le_of_ble_eq_true rfl) ⟨(Nat.le_of_ble_eq_true rfl), (Nat.le_of_ble_eq_true rfl)⟩ rfl (fun u25 h => ?_)
    refine a_aload_n C dX3_walker_28 rfl 0 rfl rfl ?_
    refine a_iconst (v := 0) C dX3_walker_29 (by decide) rfl ?_
    refine a_aload_n C dX3_walker_30 rfl 0 rfl rfl ?_
    refine g_3_0 C hE dX3_walker_31 ho kw_2_16 rfl ?_
    refine g_7_0 C dX3_walker_34 k1 kw_1_167 rfl ?_
    refine a_iconst (v := 1) C dX3_walker_37 (by decide) rfl ?_
    refine a_isub C dX3_walker_38 rfl ?_
    refine a_callVI C (c_X3_number l G cy L E hE u25 o 0 ((ms_I u25 (ms_at E o 0) 0) - 1) ho _ h) ho rfl (by decide) kw_4_54 kw_4_56 kp_15 kw_1_6 kw_4_57 rfl rfl pd_X3_number ⟨(Nat.le_of_ble_eq_true rfl), (Nat.le_of_ble_eq_true rfl)⟩ dX3_walker_39 rfl (Nat.le_of_ble_eq_true rfl) ⟨(Nat.le_of_ble_eq_true rfl), (Nat.le_of_ble_eq_true rfl)⟩ rfl (fun r39 u39 h => ?_)
    refine a_istore_n (lv' := [(0, .ref (L o)), (1, .int r39)]) C dX3_walker_42 rfl (by decide) [1, 0] rfl rfl ?_
    refine a_iload_n C dX3_walker_43 rfl 1 rfl rfl ?_
    refine a_iconst (v := (-1)) C dX3_walker_44 (by decide) rfl ?_
    refine a_icmp_ne (tgt := 52) C dX3_walker_45 (by decide) rfl (fun hc => ?_) (fun hc => ?_)
    · replace h := h.2 hc
      refine a_aload_n C dX3_walker_52 rfl 0 rfl rfl ?_
      refine a_iconst (v := 0) C dX3_walker_53 (by decide) rfl ?_
      refine a_sipush (v := 1440) C dX3_walker_54 (by decide) rfl ?_
      refine a_callVI C (c_X3_number l G cy L E hE u39 o 0 1440 ho _ h) ho rfl (by decide) kw_4_54 kw_4_56 kp_15 kw_1_6 kw_4_57 rfl rfl pd_X3_number ⟨(Nat.le_of_ble_eq_true rfl), (Nat.le_of_ble_eq_true rfl)⟩ dX3_walker_57 rfl (Nat.le_of_ble_eq_true rfl) ⟨(Nat.le_of_ble_eq_true rfl), (Nat.le_of_ble_eq_true rfl)⟩ rfl (fun r57 u57 h => ?_)
      exact c_X3_walker_60 C hr hlocks hE ho  u57 r39 r57  h
    · replace h := h.1 hc
      refine a_iconst (v := (-1)) C dX3_walker_48 (by decide) rfl ?_
      refine a_goto (tgt := 60) C dX3_walker_49 (by decide) ?_
      exact c_X3_walker_60 C hr hlocks hE ho  u39 r39 (-1)  h
  · replace h := h.2 hc
    refine a_aload_n C dX3_walker_14 rfl 0 rfl rfl ?_
    refine a_bipush (v := (-4)) C dX3_walker_15 (by decide) rfl ?_
    refine a_callVI C (c_X3_fail l G cy L E hE u o (-4) ho _ h) ho rfl (by decide) kw_4_49 kw_4_51 kp_14 kw_1_6 kw_4_52 rfl rfl pd_X3_fail ⟨(Nat.le_of_ble_eq_true rfl), (Nat.le_of_ble_eq_true rfl)⟩ dX3_walker_17 rfl (Nat.le_of_ble_eq_true rfl) ⟨(Nat.le_of_ble_eq_true rfl), (Nat.le_of_ble_eq_true rfl)⟩ rfl (fun r17 u17 h => ?_)
    obtain ⟨q20, h⟩ := h
    exact a_zret C dX3_walker_20 hr hlocks (Nat.le_of_ble_eq_true rfl) (Nat.le_of_ble_eq_true rfl) (ms_nz q20) h

/-! CensusWalk$SetupReader.statement()Z -/
theorem pd_X3_statement : (⟨"CensusWalk$SetupReader", "statement", "()Z"⟩ : MethodName).cls = "CensusWalk$SetupReader" ∧ (⟨"CensusWalk$SetupReader", "statement", "()Z"⟩ : MethodName).cls ≠ "java/lang/invoke/MethodHandle" ∧ (⟨"CensusWalk$SetupReader", "statement", "()Z"⟩ : MethodName).cls ≠ "java/lang/invoke/VarHandle" ∧ (parseMethodDescriptor (⟨"CensusWalk$SetupReader", "statement", "()Z"⟩ : MethodName).desc).map (fun d => d.parameters.length) = some 0 := by decide +kernel
def wp_X3_statement_213 (E : ms_En) (o : Nat) (post : Int32 → ms_St → Prop)  (u : ms_St)  : Prop := wp_X3_fail E u o (-2) (fun r216 u216 => (r216 = 0 ∨ r216 = 1) ∧ (post r216 u216))
set_option maxHeartbeats 4000000 in
set_option maxRecDepth 100000 in
theorem c_X3_statement_213 {p : Program} {l : Launch} {e : Env} {s : State} {m : MethodId} {args : Array Value} {below : List Frame} {meth : Method} {c : Code} {G : va_G} {cy : Nat → ClassId} {A : Nat → Prop} {L : Nat → Nat} {E : ms_En} (C : ms_Cx p m c cX3_statement 1 s args (Cond.code ⟨"CensusWalk$SetupReader", "statement", "()Z"⟩ prog_5_method_4_code 1 (some .boolean)) "CensusWalk$SetupReader" G cy A) (hr : meth.sig.returnType = (some .boolean)) (hlocks : meth.locks = false) (hE : ms_WT E) {o : Nat} {post : Int32 → ms_St → Prop}  (ho : ms_is E o 3)  (u : ms_St)   (h : wp_X3_statement_213 E o post u ) : ms_At p l e ({ frames := 45, cells := 0, slots := 0, locals := 2463 } : Room) s m args below meth c 1 G cy A L 0 0 (ms_QI below args s G cy L E A post 0 0) E u 213 [(0, .ref (L o))] [] := by
  unfold wp_X3_statement_213 at h
  refine a_aload_n C dX3_statement_213 rfl 0 rfl rfl ?_
  refine a_bipush (v := (-2)) C dX3_statement_214 (by decide) rfl ?_
  refine a_callVI C (c_X3_fail l G cy L E hE u o (-2) ho _ h) ho rfl (by decide) kw_4_49 kw_4_51 kp_14 kw_1_6 kw_4_52 rfl rfl pd_X3_fail ⟨(Nat.le_of_ble_eq_true rfl), (Nat.le_of_ble_eq_true rfl)⟩ dX3_statement_216 rfl (Nat.le_of_ble_eq_true rfl) ⟨(Nat.le_of_ble_eq_true rfl), (Nat.le_of_ble_eq_true rfl)⟩ rfl (fun r216 u216 h => ?_)
  obtain ⟨q219, h⟩ := h
  exact a_zret C dX3_statement_219 hr hlocks (Nat.le_of_ble_eq_true rfl) (Nat.le_of_ble_eq_true rfl) (ms_nz q219) h
def wp_X3_statement_176 (E : ms_En) (o : Nat) (post : Int32 → ms_St → Prop)  (u : ms_St)  : Prop := wp_X6_isWord E u (ms_at E o 3) 8 (fun r182 u182 => (r182 = 0 → wp_X3_statement_213 E o post u182) ∧ (¬ r182 = 0 → ((ms_I u182 o 7) = 0 → wp_X6_advance E (ms_sI u182 o 7 1) (ms_at E o 3) (fun u204 => WP_X3_sum E 6 u204 o 0 (fun r209 u209 => (r209 = 0 ∨ r209 = 1) ∧ (post r209 u209)))) ∧ (¬ (ms_I u182 o 7) = 0 → wp_X3_statement_213 E o post u182)))
set_option maxHeartbeats 4000000 in
set_option maxRecDepth 100000 in
theorem c_X3_statement_176 {p : Program} {l : Launch} {e : Env} {s : State} {m : MethodId} {args : Array Value} {below : List Frame} {meth : Method} {c : Code} {G : va_G} {cy : Nat → ClassId} {A : Nat → Prop} {L : Nat → Nat} {E : ms_En} (C : ms_Cx p m c cX3_statement 1 s args (Cond.code ⟨"CensusWalk$SetupReader", "statement", "()Z"⟩ prog_5_method_4_code 1 (some .boolean)) "CensusWalk$SetupReader" G cy A) (hr : meth.sig.returnType = (some .boolean)) (hlocks : meth.locks = false) (hE : ms_WT E) {o : Nat} {post : Int32 → ms_St → Prop}  (ho : ms_is E o 3)  (u : ms_St)   (h : wp_X3_statement_176 E o post u ) : ms_At p l e ({ frames := 45, cells := 0, slots := 0, locals := 2463 } : Room) s m args below meth c 1 G cy A L 0 0 (ms_QI below args s G cy L E A post 0 0) E u 176 [(0, .ref (L o))] [] := by
  unfold wp_X3_statement_176 at h
  refine a_aload_n C dX3_statement_176 rfl 0 rfl rfl ?_
  refine g_3_3 C hE dX3_statement_177 ho kw_2_21 rfl ?_
  have k177 : ms_is E (ms_at E o 3) 6 := ms_wt hE ho rfl (by decide)
  refine a_ldcS (j := 8) C dX3_statement_180 rfl rfl rfl rfl ?_
  refine a_callVI C (c_X6_isWord l G cy L E hE u (ms_at E o 3) 8 k177 (by decide) _ h) k177 rfl (by decide) kw_3_237 kw_3_238 kw_3_239 kw_1_7 kw_4_0 rfl rfl pd_X6_isWord ⟨(Nat.le_of_ble_eq_true rfl), (Nat.le_of_ble_eq_true rfl)⟩ dX3_statement_182 rfl (Nat.le_of_ble_eq_true rfl) ⟨(Nat.le_of_ble_eq_true rfl), (Nat.le_of_ble_eq_true rfl)⟩ rfl (fun r182 u182 h => ?_)
  refine a_if_eq (tgt := 213) C dX3_statement_185 (by decide) rfl (fun hc => ?_) (fun hc => ?_)
  · replace h := h.1 hc
    exact c_X3_statement_213 C hr hlocks hE ho  u182  h
  · replace h := h.2 hc
    refine a_aload_n C dX3_statement_188 rfl 0 rfl rfl ?_
    refine g_3_7 C dX3_statement_189 ho kw_2_25 rfl ?_
    refine a_if_ne (tgt := 213) C dX3_statement_192 (by decide) rfl (fun hc => ?_) (fun hc => ?_)
    · replace h := h.2 hc
      exact c_X3_statement_213 C hr hlocks hE ho  u182  h
    · replace h := h.1 hc
      refine a_aload_n C dX3_statement_195 rfl 0 rfl rfl ?_
      refine a_iconst (v := 1) C dX3_statement_196 (by decide) rfl ?_
      refine s_3_7 C dX3_statement_197 ho kw_2_25 rfl rfl rfl ?_
      refine a_aload_n C dX3_statement_200 rfl 0 rfl rfl ?_
      refine g_3_3 C hE dX3_statement_201 ho kw_2_21 rfl ?_
      refine a_callVV C (c_X6_advance l G cy L E hE (ms_sI u182 o 7 1) (ms_at E o 3) k177 _ h) k177 rfl (by decide) kw_4_53 kw_3_222 kw_3_223 kw_1_7 kw_3_224 rfl rfl pd_X6_advance ⟨(Nat.le_of_ble_eq_true rfl), (Nat.le_of_ble_eq_true rfl)⟩ dX3_statement_204 rfl (Nat.le_of_ble_eq_true rfl) ⟨(Nat.le_of_ble_eq_true rfl), (Nat.le_of_ble_eq_true rfl)⟩ rfl (fun u204 h => ?_)
      refine a_aload_n C dX3_statement_207 rfl 0 rfl rfl ?_
      refine a_iconst (v := 0) C dX3_statement_208 (by decide) rfl ?_
      refine a_callVI C (C_X3_sum l G cy L E hE 6 u204 o 0 _ ho h) ho rfl (by decide) kw_4_98 kw_4_100 kp_21 kw_1_6 kw_4_101 rfl rfl pd_X3_sum ⟨(Nat.le_of_ble_eq_true rfl), (Nat.le_of_ble_eq_true rfl)⟩ dX3_statement_209 rfl (Nat.le_of_ble_eq_true rfl) ⟨(Nat.le_of_ble_eq_true rfl), (Nat.le_of_ble_eq_true rfl)⟩ rfl (fun r209 u209 h => ?_)
      obtain ⟨q212, h⟩ := h
      exact a_zret C dX3_statement_212 hr hlocks (Nat.le_of_ble_eq_true rfl) (Nat.le_of_ble_eq_true rfl) (ms_nz q212) h
def wp_X3_statement_175 (E : ms_En) (o : Nat) (post : Int32 → ms_St → Prop)  (u : ms_St) (z0 : Int32) : Prop := (z0 = 0 ∨ z0 = 1) ∧ (post z0 u)
set_option maxHeartbeats 4000000 in
set_option maxRecDepth 100000 in
theorem c_X3_statement_175 {p : Program} {l : Launch} {e : Env} {s : State} {m : MethodId} {args : Array Value} {below : List Frame} {meth : Method} {c : Code} {G : va_G} {cy : Nat → ClassId} {A : Nat → Prop} {L : Nat → Nat} {E : ms_En} (C : ms_Cx p m c cX3_statement 1 s args (Cond.code ⟨"CensusWalk$SetupReader", "statement", "()Z"⟩ prog_5_method_4_code 1 (some .boolean)) "CensusWalk$SetupReader" G cy A) (hr : meth.sig.returnType = (some .boolean)) (hlocks : meth.locks = false) (hE : ms_WT E) {o : Nat} {post : Int32 → ms_St → Prop}  (ho : ms_is E o 3)  (u : ms_St) (z0 : Int32)  (h : wp_X3_statement_175 E o post u z0) : ms_At p l e ({ frames := 45, cells := 0, slots := 0, locals := 2463 } : Room) s m args below meth c 1 G cy A L 0 0 (ms_QI below args s G cy L E A post 0 0) E u 175 [] [.int z0] := by
  unfold wp_X3_statement_175 at h
  obtain ⟨q175, h⟩ := h
  exact a_zret C dX3_statement_175 hr hlocks (Nat.le_of_ble_eq_true rfl) (Nat.le_of_ble_eq_true rfl) (ms_nz q175) h
def wp_X3_statement_113 (E : ms_En) (o : Nat) (post : Int32 → ms_St → Prop)  (u : ms_St)  : Prop := wp_X6_isWord E u (ms_at E o 3) 7 (fun r119 u119 => (r119 = 0 → wp_X3_statement_176 E o post u119) ∧ (¬ r119 = 0 → ((ms_I u119 o 6) = 0 → wp_X6_advance E (ms_sI u119 o 6 1) (ms_at E o 3) (fun u141 => wp_X3_number E u141 o 0 600 (fun r153 u153 => ((ms_I (ms_sI u153 (ms_at E o 0) 2 r153) (ms_at E o 0) 2) = (-1) → wp_X3_statement_175 E o post (ms_sI u153 (ms_at E o 0) 2 r153) 0) ∧ (¬ (ms_I (ms_sI u153 (ms_at E o 0) 2 r153) (ms_at E o 0) 2) = (-1) → wp_X3_statement_175 E o post (ms_sI u153 (ms_at E o 0) 2 r153) 1)))) ∧ (¬ (ms_I u119 o 6) = 0 → wp_X3_statement_176 E o post u119)))
set_option maxHeartbeats 4000000 in
set_option maxRecDepth 100000 in
theorem c_X3_statement_113 {p : Program} {l : Launch} {e : Env} {s : State} {m : MethodId} {args : Array Value} {below : List Frame} {meth : Method} {c : Code} {G : va_G} {cy : Nat → ClassId} {A : Nat → Prop} {L : Nat → Nat} {E : ms_En} (C : ms_Cx p m c cX3_statement 1 s args (Cond.code ⟨"CensusWalk$SetupReader", "statement", "()Z"⟩ prog_5_method_4_code 1 (some .boolean)) "CensusWalk$SetupReader" G cy A) (hr : meth.sig.returnType = (some .boolean)) (hlocks : meth.locks = false) (hE : ms_WT E) {o : Nat} {post : Int32 → ms_St → Prop}  (ho : ms_is E o 3)  (u : ms_St)   (h : wp_X3_statement_113 E o post u ) : ms_At p l e ({ frames := 45, cells := 0, slots := 0, locals := 2463 } : Room) s m args below meth c 1 G cy A L 0 0 (ms_QI below args s G cy L E A post 0 0) E u 113 [(0, .ref (L o))] [] := by
  unfold wp_X3_statement_113 at h
  refine a_aload_n C dX3_statement_113 rfl 0 rfl rfl ?_
  refine g_3_3 C hE dX3_statement_114 ho kw_2_21 rfl ?_
  have k114 : ms_is E (ms_at E o 3) 6 := ms_wt hE ho rfl (by decide)
  refine a_ldcS (j := 7) C dX3_statement_117 rfl rfl rfl rfl ?_
  refine a_callVI C (c_X6_isWord l G cy L E hE u (ms_at E o 3) 7 k114 (by decide) _ h) k114 rfl (by decide) kw_3_237 kw_3_238 kw_3_239 kw_1_7 kw_4_0 rfl rfl pd_X6_isWord ⟨(Nat.le_of_ble_eq_true rfl), (Nat.le_of_ble_eq_true rfl)⟩ dX3_statement_119 rfl (Nat.le_of_ble_eq_true rfl) ⟨(Nat.le_of_ble_eq_true rfl), (Nat.le_of_ble_eq_true rfl)⟩ rfl (fun r119 u119 h => ?_)
  refine a_if_eq (tgt := 176) C dX3_statement_122 (by decide) rfl (fun hc => ?_) (fun hc => ?_)
  · replace h := h.1 hc
    exact c_X3_statement_176 C hr hlocks hE ho  u119  h
  · replace h := h.2 hc
    refine a_aload_n C dX3_statement_125 rfl 0 rfl rfl ?_
    refine g_3_6 C dX3_statement_126 ho kw_2_24 rfl ?_
    refine a_if_ne (tgt := 176) C dX3_statement_129 (by decide) rfl (fun hc => ?_) (fun hc => ?_)
    · replace h := h.2 hc
      exact c_X3_statement_176 C hr hlocks hE ho  u119  h
    · replace h := h.1 hc
      refine a_aload_n C dX3_statement_132 rfl 0 rfl rfl ?_
      refine a_iconst (v := 1) C dX3_statement_133 (by decide) rfl ?_
      refine s_3_6 C dX3_statement_134 ho kw_2_24 rfl rfl rfl ?_
      refine a_aload_n C dX3_statement_137 rfl 0 rfl rfl ?_
      refine g_3_3 C hE dX3_statement_138 ho kw_2_21 rfl ?_
      refine a_callVV C (c_X6_advance l G cy L E hE (ms_sI u119 o 6 1) (ms_at E o 3) k114 _ h) k114 rfl (by decide) kw_4_53 kw_3_222 kw_3_223 kw_1_7 kw_3_224 rfl rfl pd_X6_advance ⟨(Nat.le_of_ble_eq_true rfl), (Nat.le_of_ble_eq_true rfl)⟩ dX3_statement_141 rfl (Nat.le_of_ble_eq_true rfl) ⟨(Nat.le_of_ble_eq_true rfl), (Nat.le_of_ble_eq_true rfl)⟩ rfl (fun u141 h => ?_)
      refine a_aload_n C dX3_statement_144 rfl 0 rfl rfl ?_
      refine g_3_0 C hE dX3_statement_145 ho kw_2_16 rfl ?_
      have k145 : ms_is E (ms_at E o 0) 7 := ms_wt hE ho rfl (by decide)
      refine a_aload_n C dX3_statement_148 rfl 0 rfl rfl ?_
      refine a_iconst (v := 0) C dX3_statement_149 (by decide) rfl ?_
      refine a_sipush (v := 600) C dX3_statement_150 (by decide) rfl ?_
      refine a_callVI C (c_X3_number l G cy L E hE u141 o 0 600 ho _ h) ho rfl (by decide) kw_4_54 kw_4_56 kp_15 kw_1_6 kw_4_57 rfl rfl pd_X3_number ⟨(Nat.le_of_ble_eq_true rfl), (Nat.le_of_ble_eq_true rfl)⟩ dX3_statement_153 rfl (Nat.le_of_ble_eq_true rfl) ⟨(Nat.le_of_ble_eq_true rfl), (Nat.le_of_ble_eq_true rfl)⟩ rfl (fun r153 u153 h => ?_)
      refine s_7_2 C dX3_statement_156 k145 kw_1_173 rfl ?_
      refine a_aload_n C dX3_statement_159 rfl 0 rfl rfl ?_
      refine g_3_0 C hE dX3_statement_160 ho kw_2_16 rfl ?_
      refine g_7_2 C dX3_statement_163 k145 kw_1_173 rfl ?_
      refine a_iconst (v := (-1)) C dX3_statement_166 (by decide) rfl ?_
      refine a_icmp_eq (tgt := 174) C dX3_statement_167 (by decide) rfl (fun hc => ?_) (fun hc => ?_)
      · replace h := h.1 hc
        refine a_iconst (v := 0) C dX3_statement_174 (by decide) rfl ?_
        refine a_sub (lv' := []) [] rfl ?_
        exact c_X3_statement_175 C hr hlocks hE ho  (ms_sI u153 (ms_at E o 0) 2 r153) 0  h
      · replace h := h.2 hc
        refine a_iconst (v := 1) C dX3_statement_170 (by decide) rfl ?_
        refine a_goto (tgt := 175) C dX3_statement_171 (by decide) ?_
        refine a_sub (lv' := []) [] rfl ?_
        exact c_X3_statement_175 C hr hlocks hE ho  (ms_sI u153 (ms_at E o 0) 2 r153) 1  h
def wp_X3_statement_112 (E : ms_En) (o : Nat) (post : Int32 → ms_St → Prop)  (u : ms_St) (z0 : Int32) : Prop := (z0 = 0 ∨ z0 = 1) ∧ (post z0 u)
set_option maxHeartbeats 4000000 in
set_option maxRecDepth 100000 in
theorem c_X3_statement_112 {p : Program} {l : Launch} {e : Env} {s : State} {m : MethodId} {args : Array Value} {below : List Frame} {meth : Method} {c : Code} {G : va_G} {cy : Nat → ClassId} {A : Nat → Prop} {L : Nat → Nat} {E : ms_En} (C : ms_Cx p m c cX3_statement 1 s args (Cond.code ⟨"CensusWalk$SetupReader", "statement", "()Z"⟩ prog_5_method_4_code 1 (some .boolean)) "CensusWalk$SetupReader" G cy A) (hr : meth.sig.returnType = (some .boolean)) (hlocks : meth.locks = false) (hE : ms_WT E) {o : Nat} {post : Int32 → ms_St → Prop}  (ho : ms_is E o 3)  (u : ms_St) (z0 : Int32)  (h : wp_X3_statement_112 E o post u z0) : ms_At p l e ({ frames := 45, cells := 0, slots := 0, locals := 2463 } : Room) s m args below meth c 1 G cy A L 0 0 (ms_QI below args s G cy L E A post 0 0) E u 112 [] [.int z0] := by
  unfold wp_X3_statement_112 at h
  obtain ⟨q112, h⟩ := h
  exact a_zret C dX3_statement_112 hr hlocks (Nat.le_of_ble_eq_true rfl) (Nat.le_of_ble_eq_true rfl) (ms_nz q112) h
def wp_X3_statement (E : ms_En) (u : ms_St) (o : Nat) (post : Int32 → ms_St → Prop) : Prop := wp_X6_isWord E u (ms_at E o 3) 2 (fun r6 u6 => (r6 = 0 → wp_X6_isWord E u6 (ms_at E o 3) 3 (fun r23 u23 => (r23 = 0 → wp_X6_isWord E u23 (ms_at E o 3) 5 (fun r40 u40 => (r40 = 0 → wp_X6_isWord E u40 (ms_at E o 3) 6 (fun r57 u57 => (r57 = 0 → wp_X3_statement_113 E o post u57) ∧ (¬ r57 = 0 → ((ms_I u57 o 5) = 0 → wp_X6_advance E (ms_sI u57 o 5 1) (ms_at E o 3) (fun u79 => wp_X3_number E u79 o 0 9 (fun r90 u90 => ((ms_I (ms_sI u90 (ms_at E o 0) 1 r90) (ms_at E o 0) 1) = (-1) → wp_X3_statement_112 E o post (ms_sI u90 (ms_at E o 0) 1 r90) 0) ∧ (¬ (ms_I (ms_sI u90 (ms_at E o 0) 1 r90) (ms_at E o 0) 1) = (-1) → wp_X3_statement_112 E o post (ms_sI u90 (ms_at E o 0) 1 r90) 1)))) ∧ (¬ (ms_I u57 o 5) = 0 → wp_X3_statement_113 E o post u57)))) ∧ (¬ r40 = 0 → wp_X3_walker E u40 o (fun r47 u47 => (r47 = 0 ∨ r47 = 1) ∧ (post r47 u47))))) ∧ (¬ r23 = 0 → wp_X3_house E u23 o (fun r30 u30 => (r30 = 0 ∨ r30 = 1) ∧ (post r30 u30))))) ∧ (¬ r6 = 0 → wp_X3_street E u6 o (fun r13 u13 => (r13 = 0 ∨ r13 = 1) ∧ (post r13 u13))))
set_option maxHeartbeats 4000000 in
set_option maxRecDepth 100000 in
theorem c_X3_statement (l : Launch) (G : va_G) (cy : Nat → ClassId) (L : Nat → Nat) (E : ms_En) (hE : ms_WT E) (u : ms_St) (o : Nat) (ho : ms_is E o 3) (post : Int32 → ms_St → Prop) (h : wp_X3_statement E u o post) : ms_MetI l ⟨"CensusWalk$SetupReader", "statement", "()Z"⟩ (Cond.code ⟨"CensusWalk$SetupReader", "statement", "()Z"⟩ prog_5_method_4_code 1 (some .boolean) :: lw_g) ({ frames := 45, cells := 0, slots := 0, locals := 2463 } : Room) G cy L E [.ref (L o)] u post 0 0 := by
  refine ms_enterI (lv := [(0, .ref (L o))]) (by decide) (Nat.le_of_ble_eq_true rfl) rfl ?_
  intro p e s m args below meth c A C hr hlocks
  unfold wp_X3_statement at h
  refine a_aload_n C dX3_statement_0 rfl 0 rfl rfl ?_
  refine g_3_3 C hE dX3_statement_1 ho kw_2_21 rfl ?_
  have k1 : ms_is E (ms_at E o 3) 6 := ms_wt hE ho rfl (by decide)
  refine a_ldcS (j := 2) C dX3_statement_4 rfl rfl rfl rfl ?_
  refine a_callVI C (c_X6_isWord l G cy L E hE u (ms_at E o 3) 2 k1 (by decide) _ h) k1 rfl (by decide) kw_3_237 kw_3_238 kw_3_239 kw_1_7 kw_4_0 rfl rfl pd_X6_isWord ⟨(Nat.le_of_ble_eq_true rfl), (Nat.le_of_ble_eq_true rfl)⟩ dX3_statement_6 rfl (Nat.le_of_ble_eq_true rfl) ⟨(Nat.le_of_ble_eq_true rfl), (Nat.le_of_ble_eq_true rfl)⟩ rfl (fun r6 u6 h => ?_)
  refine a_if_eq (tgt := 17) C dX3_statement_9 (by decide) rfl (fun hc => ?_) (fun hc => ?_)
  · replace h := h.1 hc
    refine a_aload_n C dX3_statement_17 rfl 0 rfl rfl ?_
    refine g_3_3 C hE dX3_statement_18 ho kw_2_21 rfl ?_
    refine a_ldcS (j := 3) C dX3_statement_21 rfl rfl rfl rfl ?_
    refine a_callVI C (c_X6_isWord l G cy L E hE u6 (ms_at E o 3) 3 k1 (by decide) _ h) k1 rfl (by decide) kw_3_237 kw_3_238 kw_3_239 kw_1_7 kw_4_0 rfl rfl pd_X6_isWord ⟨(Nat.le_of_ble_eq_true rfl), (Nat.le_of_ble_eq_true rfl)⟩ dX3_statement_23 rfl (Nat.le_of_ble_eq_true rfl) ⟨(Nat.le_of_ble_eq_true rfl), (Nat.le_of_ble_eq_true rfl)⟩ rfl (fun r23 u23 h => ?_)
    refine a_if_eq (tgt := 34) C dX3_statement_26 (by decide) rfl (fun hc => ?_) (fun hc => ?_)
    · replace h := h.1 hc
      refine a_aload_n C dX3_statement_34 rfl 0 rfl rfl ?_
      refine g_3_3 C hE dX3_statement_35 ho kw_2_21 rfl ?_
      refine a_ldcS (j := 5) C dX3_statement_38 rfl rfl rfl rfl ?_
      refine a_callVI C (c_X6_isWord l G cy L E hE u23 (ms_at E o 3) 5 k1 (by decide) _ h) k1 rfl (by decide) kw_3_237 kw_3_238 kw_3_239 kw_1_7 kw_4_0 rfl rfl pd_X6_isWord ⟨(Nat.le_of_ble_eq_true rfl), (Nat.le_of_ble_eq_true rfl)⟩ dX3_statement_40 rfl (Nat.le_of_ble_eq_true rfl) ⟨(Nat.le_of_ble_eq_true rfl), (Nat.le_of_ble_eq_true rfl)⟩ rfl (fun r40 u40 h => ?_)
      refine a_if_eq (tgt := 51) C dX3_statement_43 (by decide) rfl (fun hc => ?_) (fun hc => ?_)
      · replace h := h.1 hc
        refine a_aload_n C dX3_statement_51 rfl 0 rfl rfl ?_
        refine g_3_3 C hE dX3_statement_52 ho kw_2_21 rfl ?_
        refine a_ldcS (j := 6) C dX3_statement_55 rfl rfl rfl rfl ?_
        refine a_callVI C (c_X6_isWord l G cy L E hE u40 (ms_at E o 3) 6 k1 (by decide) _ h) k1 rfl (by decide) kw_3_237 kw_3_238 kw_3_239 kw_1_7 kw_4_0 rfl rfl pd_X6_isWord ⟨(Nat.le_of_ble_eq_true rfl), (Nat.le_of_ble_eq_true rfl)⟩ dX3_statement_57 rfl (Nat.le_of_ble_eq_true rfl) ⟨(Nat.le_of_ble_eq_true rfl), (Nat.le_of_ble_eq_true rfl)⟩ rfl (fun r57 u57 h => ?_)
        refine a_if_eq (tgt := 113) C dX3_statement_60 (by decide) rfl (fun hc => ?_) (fun hc => ?_)
        · replace h := h.1 hc
          exact c_X3_statement_113 C hr hlocks hE ho  u57  h
        · replace h := h.2 hc
          refine a_aload_n C dX3_statement_63 rfl 0 rfl rfl ?_
          refine g_3_5 C dX3_statement_64 ho kw_2_23 rfl ?_
          refine a_if_ne (tgt := 113) C dX3_statement_67 (by decide) rfl (fun hc => ?_) (fun hc => ?_)
          · replace h := h.2 hc
            exact c_X3_statement_113 C hr hlocks hE ho  u57  h
          · replace h := h.1 hc
            refine a_aload_n C dX3_statement_70 rfl 0 rfl rfl ?_
            refine a_iconst (v := 1) C dX3_statement_71 (by decide) rfl ?_
            refine s_3_5 C dX3_statement_72 ho kw_2_23 rfl rfl rfl ?_
            refine a_aload_n C dX3_statement_75 rfl 0 rfl rfl ?_
            refine g_3_3 C hE dX3_statement_76 ho kw_2_21 rfl ?_
            refine a_callVV C (c_X6_advance l G cy L E hE (ms_sI u57 o 5 1) (ms_at E o 3) k1 _ h) k1 rfl (by decide) kw_4_53 kw_3_222 kw_3_223 kw_1_7 kw_3_224 rfl rfl pd_X6_advance ⟨(Nat.le_of_ble_eq_true rfl), (Nat.le_of_ble_eq_true rfl)⟩ dX3_statement_79 rfl (Nat.le_of_ble_eq_true rfl) ⟨(Nat.le_of_ble_eq_true rfl), (Nat.le_of_ble_eq_true rfl)⟩ rfl (fun u79 h => ?_)
            refine a_aload_n C dX3_statement_82 rfl 0 rfl rfl ?_
            refine g_3_0 C hE dX3_statement_83 ho kw_2_16 rfl ?_
            have k83 : ms_is E (ms_at E o 0) 7 := ms_wt hE ho rfl (by decide)
            refine a_aload_n C dX3_statement_86 rfl 0 rfl rfl ?_
            refine a_iconst (v := 0) C dX3_statement_87 (by decide) rfl ?_
            refine a_bipush (v := 9) C dX3_statement_88 (by decide) rfl ?_
            refine a_callVI C (c_X3_number l G cy L E hE u79 o 0 9 ho _ h) ho rfl (by decide) kw_4_54 kw_4_56 kp_15 kw_1_6 kw_4_57 rfl rfl pd_X3_number ⟨(Nat.le_of_ble_eq_true rfl), (Nat.le_of_ble_eq_true rfl)⟩ dX3_statement_90 rfl (Nat.le_of_ble_eq_true rfl) ⟨(Nat.le_of_ble_eq_true rfl), (Nat.le_of_ble_eq_true rfl)⟩ rfl (fun r90 u90 h => ?_)
            refine s_7_1 C dX3_statement_93 k83 kw_1_170 rfl ?_
            refine a_aload_n C dX3_statement_96 rfl 0 rfl rfl ?_
            refine g_3_0 C hE dX3_statement_97 ho kw_2_16 rfl ?_
            refine g_7_1 C dX3_statement_100 k83 kw_1_170 rfl ?_
            refine a_iconst (v := (-1)) C dX3_statement_103 (by decide) rfl ?_
            refine a_icmp_eq (tgt := 111) C dX3_statement_104 (by decide) rfl (fun hc => ?_) (fun hc => ?_)
            · replace h := h.1 hc
              refine a_iconst (v := 0) C dX3_statement_111 (by decide) rfl ?_
              refine a_sub (lv' := []) [] rfl ?_
              exact c_X3_statement_112 C hr hlocks hE ho  (ms_sI u90 (ms_at E o 0) 1 r90) 0  h
            · replace h := h.2 hc
              refine a_iconst (v := 1) C dX3_statement_107 (by decide) rfl ?_
              refine a_goto (tgt := 112) C dX3_statement_108 (by decide) ?_
              refine a_sub (lv' := []) [] rfl ?_
              exact c_X3_statement_112 C hr hlocks hE ho  (ms_sI u90 (ms_at E o 0) 1 r90) 1  h
      · replace h := h.2 hc
        refine a_aload_n C dX3_statement_46 rfl 0 rfl rfl ?_
        refine a_callVI C (c_X3_walker l G cy L E hE u40 o ho _ h) ho rfl (by decide) kw_4_87 kw_4_89 kp_20 kw_1_6 kw_4_90 rfl rfl pd_X3_walker ⟨(Nat.le_of_ble_eq_true rfl), (Nat.le_of_ble_eq_true rfl)⟩ dX3_statement_47 rfl (Nat.le_of_ble_eq_true rfl) ⟨(Nat.le_of_ble_eq_true rfl), (Nat.le_of_ble_eq_true rfl)⟩ rfl (fun r47 u47 h => ?_)
        obtain ⟨q50, h⟩ := h
        exact a_zret C dX3_statement_50 hr hlocks (Nat.le_of_ble_eq_true rfl) (Nat.le_of_ble_eq_true rfl) (ms_nz q50) h
    · replace h := h.2 hc
      refine a_aload_n C dX3_statement_29 rfl 0 rfl rfl ?_
      refine a_callVI C (c_X3_house l G cy L E hE u23 o ho _ h) ho rfl (by decide) kw_4_80 kw_4_82 kp_19 kw_1_6 kw_4_83 rfl rfl pd_X3_house ⟨(Nat.le_of_ble_eq_true rfl), (Nat.le_of_ble_eq_true rfl)⟩ dX3_statement_30 rfl (Nat.le_of_ble_eq_true rfl) ⟨(Nat.le_of_ble_eq_true rfl), (Nat.le_of_ble_eq_true rfl)⟩ rfl (fun r30 u30 h => ?_)
      obtain ⟨q33, h⟩ := h
      exact a_zret C dX3_statement_33 hr hlocks (Nat.le_of_ble_eq_true rfl) (Nat.le_of_ble_eq_true rfl) (ms_nz q33) h
  · replace h := h.2 hc
    refine a_aload_n C dX3_statement_12 rfl 0 rfl rfl ?_
    refine a_callVI C (c_X3_street l G cy L E hE u6 o ho _ h) ho rfl (by decide) kw_4_71 kw_4_73 kp_18 kw_1_6 kw_4_74 rfl rfl pd_X3_street ⟨(Nat.le_of_ble_eq_true rfl), (Nat.le_of_ble_eq_true rfl)⟩ dX3_statement_13 rfl (Nat.le_of_ble_eq_true rfl) ⟨(Nat.le_of_ble_eq_true rfl), (Nat.le_of_ble_eq_true rfl)⟩ rfl (fun r13 u13 h => ?_)
    obtain ⟨q16, h⟩ := h
    exact a_zret C dX3_statement_16 hr hlocks (Nat.le_of_ble_eq_true rfl) (Nat.le_of_ble_eq_true rfl) (ms_nz q16) h

/-! CensusWalk$SetupReader.read([BI)I -/
theorem pd_X3_read : (⟨"CensusWalk$SetupReader", "read", "([BI)I"⟩ : MethodName).cls = "CensusWalk$SetupReader" ∧ (⟨"CensusWalk$SetupReader", "read", "([BI)I"⟩ : MethodName).cls ≠ "java/lang/invoke/MethodHandle" ∧ (⟨"CensusWalk$SetupReader", "read", "([BI)I"⟩ : MethodName).cls ≠ "java/lang/invoke/VarHandle" ∧ (parseMethodDescriptor (⟨"CensusWalk$SetupReader", "read", "([BI)I"⟩ : MethodName).desc).map (fun d => d.parameters.length) = some 2 := by decide +kernel
def wp_X3_read_124 (E : ms_En) (o : Nat) (a1 : Nat) (a2 : Int32) (post : Int32 → ms_St → Prop)  (u : ms_St)  : Prop := post (ms_I u o 2) u
set_option maxHeartbeats 4000000 in
set_option maxRecDepth 100000 in
theorem c_X3_read_124 {p : Program} {l : Launch} {e : Env} {s : State} {m : MethodId} {args : Array Value} {below : List Frame} {meth : Method} {c : Code} {G : va_G} {cy : Nat → ClassId} {A : Nat → Prop} {L : Nat → Nat} {E : ms_En} (C : ms_Cx p m c cX3_read 5 s args (Cond.code ⟨"CensusWalk$SetupReader", "read", "([BI)I"⟩ prog_5_method_2_code 5 (some .int)) "CensusWalk$SetupReader" G cy A) (hr : meth.sig.returnType = (some .int)) (hlocks : meth.locks = false) (hE : ms_WT E) {o : Nat} {a1 : Nat} {a2 : Int32} {post : Int32 → ms_St → Prop}  (ho : ms_is E o 3) (ha1 : ms_is E a1 12)  (u : ms_St)   (h : wp_X3_read_124 E o a1 a2 post u ) : ms_At p l e ({ frames := 46, cells := 0, slots := 0, locals := 2483 } : Room) s m args below meth c 5 G cy A L 0 0 (ms_QI below args s G cy L E A post 0 0) E u 124 [(0, .ref (L o))] [] := by
  unfold wp_X3_read_124 at h
  refine a_aload_n C dX3_read_124 rfl 0 rfl rfl ?_
  refine g_3_2 C dX3_read_125 ho kw_2_20 rfl ?_
  exact a_iret C dX3_read_128 hr hlocks (Nat.le_of_ble_eq_true rfl) (Nat.le_of_ble_eq_true rfl) h
def wp_X3_read_106 (E : ms_En) (o : Nat) (a1 : Nat) (a2 : Int32) (post : Int32 → ms_St → Prop)  (u : ms_St) (x3 : Int32) : Prop := (x3 = 0 → wp_X3_read_124 E o a1 a2 post u) ∧ (¬ x3 = 0 → wp_X0_setVisits E u (ms_at E (ms_at E o 0) 4) (ms_at E o 4) (fun u121 => wp_X3_read_124 E o a1 a2 post u121))
set_option maxHeartbeats 4000000 in
set_option maxRecDepth 100000 in
theorem c_X3_read_106 {p : Program} {l : Launch} {e : Env} {s : State} {m : MethodId} {args : Array Value} {below : List Frame} {meth : Method} {c : Code} {G : va_G} {cy : Nat → ClassId} {A : Nat → Prop} {L : Nat → Nat} {E : ms_En} (C : ms_Cx p m c cX3_read 5 s args (Cond.code ⟨"CensusWalk$SetupReader", "read", "([BI)I"⟩ prog_5_method_2_code 5 (some .int)) "CensusWalk$SetupReader" G cy A) (hr : meth.sig.returnType = (some .int)) (hlocks : meth.locks = false) (hE : ms_WT E) {o : Nat} {a1 : Nat} {a2 : Int32} {post : Int32 → ms_St → Prop}  (ho : ms_is E o 3) (ha1 : ms_is E a1 12)  (u : ms_St) (x3 : Int32)  (h : wp_X3_read_106 E o a1 a2 post u x3) : ms_At p l e ({ frames := 46, cells := 0, slots := 0, locals := 2483 } : Room) s m args below meth c 5 G cy A L 0 0 (ms_QI below args s G cy L E A post 0 0) E u 106 [(0, .ref (L o)), (3, .int x3)] [] := by
  unfold wp_X3_read_106 at h
  refine a_iload_n C dX3_read_106 rfl 1 rfl rfl ?_
  refine a_if_eq (tgt := 124) C dX3_read_107 (by decide) rfl (fun hc => ?_) (fun hc => ?_)
  · replace h := h.1 hc
    refine a_sub (lv' := [(0, .ref (L o))]) [0] rfl ?_
    exact c_X3_read_124 C hr hlocks hE ho ha1  u  h
  · replace h := h.2 hc
    refine a_aload_n C dX3_read_110 rfl 0 rfl rfl ?_
    refine g_3_0 C hE dX3_read_111 ho kw_2_16 rfl ?_
    have k111 : ms_is E (ms_at E o 0) 7 := ms_wt hE ho rfl (by decide)
    refine g_7_4 C hE dX3_read_114 k111 kw_1_180 rfl ?_
    have k114 : ms_is E (ms_at E (ms_at E o 0) 4) 0 := ms_wt hE k111 rfl (by decide)
    refine a_aload_n C dX3_read_117 rfl 0 rfl rfl ?_
    refine g_3_4 C hE dX3_read_118 ho kw_2_22 rfl ?_
    have k118 : ms_is E (ms_at E o 4) 8 := ms_wt hE ho rfl (by decide)
    refine a_callVV C (c_X0_setVisits l G cy L E hE u (ms_at E (ms_at E o 0) 4) (ms_at E o 4) k114 k118 _ h) k114 rfl (by decide) kw_4_116 kw_4_117 kw_4_118 kw_1_4 kw_4_119 rfl rfl pd_X0_setVisits ⟨(Nat.le_of_ble_eq_true rfl), (Nat.le_of_ble_eq_true rfl)⟩ dX3_read_121 rfl (Nat.le_of_ble_eq_true rfl) ⟨(Nat.le_of_ble_eq_true rfl), (Nat.le_of_ble_eq_true rfl)⟩ rfl (fun u121 h => ?_)
    refine a_sub (lv' := [(0, .ref (L o))]) [0] rfl ?_
    exact c_X3_read_124 C hr hlocks hE ho ha1  u121  h
def wp_X3_read_99 (E : ms_En) (o : Nat) (a1 : Nat) (a2 : Int32) (post : Int32 → ms_St → Prop) (k56 : ms_St → Int32 → Int32 → Prop) (u : ms_St) (x4 : Int32) (z0 : Int32) : Prop := k56 u z0 (x4 + 1)
set_option maxHeartbeats 4000000 in
set_option maxRecDepth 100000 in
theorem c_X3_read_99 {p : Program} {l : Launch} {e : Env} {s : State} {m : MethodId} {args : Array Value} {below : List Frame} {meth : Method} {c : Code} {G : va_G} {cy : Nat → ClassId} {A : Nat → Prop} {L : Nat → Nat} {E : ms_En} (C : ms_Cx p m c cX3_read 5 s args (Cond.code ⟨"CensusWalk$SetupReader", "read", "([BI)I"⟩ prog_5_method_2_code 5 (some .int)) "CensusWalk$SetupReader" G cy A) (hr : meth.sig.returnType = (some .int)) (hlocks : meth.locks = false) (hE : ms_WT E) {o : Nat} {a1 : Nat} {a2 : Int32} {post : Int32 → ms_St → Prop} {k56 : ms_St → Int32 → Int32 → Prop} (ho : ms_is E o 3) (ha1 : ms_is E a1 12) (hk56 : ∀ (u : ms_St) (x3 : Int32) (x4 : Int32), k56 u x3 x4 → ms_At p l e ({ frames := 46, cells := 0, slots := 0, locals := 2483 } : Room) s m args below meth c 5 G cy A L 0 0 (ms_QI below args s G cy L E A post 0 0) E u 56 [(0, .ref (L o)), (3, .int x3), (4, .int x4)] []) (u : ms_St) (x4 : Int32) (z0 : Int32)  (h : wp_X3_read_99 E o a1 a2 post k56 u x4 z0) : ms_At p l e ({ frames := 46, cells := 0, slots := 0, locals := 2483 } : Room) s m args below meth c 5 G cy A L 0 0 (ms_QI below args s G cy L E A post 0 0) E u 99 [(0, .ref (L o)), (4, .int x4)] [.int z0] := by
  unfold wp_X3_read_99 at h
  refine a_istore_n (lv' := [(0, .ref (L o)), (3, .int z0), (4, .int x4)]) C dX3_read_99 rfl (by decide) [1, 0, 2] rfl rfl ?_
  refine a_iinc (lv' := [(0, .ref (L o)), (3, .int z0), (4, .int (x4 + 1))]) (v := (x4 + 1)) C dX3_read_100 2 rfl (congrArg (fun z => x4 + z) (by decide)) (by decide) [1, 2, 0] rfl rfl ?_
  refine a_goto (tgt := 56) C dX3_read_103 (by decide) ?_
  exact hk56 u z0 (x4 + 1)  h
def wp_X3_read_98 (E : ms_En) (o : Nat) (a1 : Nat) (a2 : Int32) (post : Int32 → ms_St → Prop) (k56 : ms_St → Int32 → Int32 → Prop) (u : ms_St) (x4 : Int32) : Prop := wp_X3_read_99 E o a1 a2 post k56 u x4 0
set_option maxHeartbeats 4000000 in
set_option maxRecDepth 100000 in
theorem c_X3_read_98 {p : Program} {l : Launch} {e : Env} {s : State} {m : MethodId} {args : Array Value} {below : List Frame} {meth : Method} {c : Code} {G : va_G} {cy : Nat → ClassId} {A : Nat → Prop} {L : Nat → Nat} {E : ms_En} (C : ms_Cx p m c cX3_read 5 s args (Cond.code ⟨"CensusWalk$SetupReader", "read", "([BI)I"⟩ prog_5_method_2_code 5 (some .int)) "CensusWalk$SetupReader" G cy A) (hr : meth.sig.returnType = (some .int)) (hlocks : meth.locks = false) (hE : ms_WT E) {o : Nat} {a1 : Nat} {a2 : Int32} {post : Int32 → ms_St → Prop} {k56 : ms_St → Int32 → Int32 → Prop} (ho : ms_is E o 3) (ha1 : ms_is E a1 12) (hk56 : ∀ (u : ms_St) (x3 : Int32) (x4 : Int32), k56 u x3 x4 → ms_At p l e ({ frames := 46, cells := 0, slots := 0, locals := 2483 } : Room) s m args below meth c 5 G cy A L 0 0 (ms_QI below args s G cy L E A post 0 0) E u 56 [(0, .ref (L o)), (3, .int x3), (4, .int x4)] []) (u : ms_St) (x4 : Int32)  (h : wp_X3_read_98 E o a1 a2 post k56 u x4) : ms_At p l e ({ frames := 46, cells := 0, slots := 0, locals := 2483 } : Room) s m args below meth c 5 G cy A L 0 0 (ms_QI below args s G cy L E A post 0 0) E u 98 [(0, .ref (L o)), (4, .int x4)] [] := by
  unfold wp_X3_read_98 at h
  refine a_iconst (v := 0) C dX3_read_98 (by decide) rfl ?_
  exact c_X3_read_99 C hr hlocks hE ho ha1 hk56 u x4 0  h
def wp_X3_read_56 (E : ms_En) (o : Nat) (a1 : Nat) (a2 : Int32) (post : Int32 → ms_St → Prop)  : Nat → ms_St → Int32 → Int32 → Prop
  | 0 => fun _ _ _ => False
  | n + 1 => fun u x3 x4 => (900 ≤ x4 → wp_X3_read_106 E o a1 a2 post u x3) ∧ (¬ 900 ≤ x4 → (x3 = 0 → wp_X3_read_106 E o a1 a2 post u x3) ∧ (¬ x3 = 0 → ((ms_I u (ms_at E o 3) 0) = 0 → wp_X3_read_106 E o a1 a2 post u x3) ∧ (¬ (ms_I u (ms_at E o 3) 0) = 0 → wp_X3_statement E u o (fun r79 u79 => (r79 = 0 → wp_X3_read_98 E o a1 a2 post (wp_X3_read_56 E o a1 a2 post n) u79 x4) ∧ (¬ r79 = 0 → wp_X3_expect E u79 o 59 (fun r88 u88 => (r88 = 0 → wp_X3_read_98 E o a1 a2 post (wp_X3_read_56 E o a1 a2 post n) u88 x4) ∧ (¬ r88 = 0 → wp_X3_read_99 E o a1 a2 post (wp_X3_read_56 E o a1 a2 post n) u88 x4 1)))))))
set_option maxHeartbeats 4000000 in
set_option maxRecDepth 100000 in
theorem c_X3_read_56 {p : Program} {l : Launch} {e : Env} {s : State} {m : MethodId} {args : Array Value} {below : List Frame} {meth : Method} {c : Code} {G : va_G} {cy : Nat → ClassId} {A : Nat → Prop} {L : Nat → Nat} {E : ms_En} (C : ms_Cx p m c cX3_read 5 s args (Cond.code ⟨"CensusWalk$SetupReader", "read", "([BI)I"⟩ prog_5_method_2_code 5 (some .int)) "CensusWalk$SetupReader" G cy A) (hr : meth.sig.returnType = (some .int)) (hlocks : meth.locks = false) (hE : ms_WT E) {o : Nat} {a1 : Nat} {a2 : Int32} {post : Int32 → ms_St → Prop}  (ho : ms_is E o 3) (ha1 : ms_is E a1 12)  : ∀ (n : Nat) (u : ms_St) (x3 : Int32) (x4 : Int32), wp_X3_read_56 E o a1 a2 post n u x3 x4 → ms_At p l e ({ frames := 46, cells := 0, slots := 0, locals := 2483 } : Room) s m args below meth c 5 G cy A L 0 0 (ms_QI below args s G cy L E A post 0 0) E u 56 [(0, .ref (L o)), (3, .int x3), (4, .int x4)] [] := by
  intro n
  induction n with
  | zero =>
    intro u x3 x4  h
    exact absurd h id
  | succ n ih =>
    intro u x3 x4  h
    unfold wp_X3_read_56 at h
    refine a_iload C dX3_read_56 2 rfl rfl ?_
    refine a_sipush (v := 900) C dX3_read_58 (by decide) rfl ?_
    refine a_icmp_ge (tgt := 106) C dX3_read_61 (by decide) rfl (fun hc => ?_) (fun hc => ?_)
    · replace h := h.1 hc
      refine a_sub (lv' := [(0, .ref (L o)), (3, .int x3)]) [0, 1] rfl ?_
      exact c_X3_read_106 C hr hlocks hE ho ha1  u x3  h
    · replace h := h.2 hc
      refine a_iload_n C dX3_read_64 rfl 1 rfl rfl ?_
      refine a_if_eq (tgt := 106) C dX3_read_65 (by decide) rfl (fun hc => ?_) (fun hc => ?_)
      · replace h := h.1 hc
        refine a_sub (lv' := [(0, .ref (L o)), (3, .int x3)]) [0, 1] rfl ?_
        exact c_X3_read_106 C hr hlocks hE ho ha1  u x3  h
      · replace h := h.2 hc
        refine a_aload_n C dX3_read_68 rfl 0 rfl rfl ?_
        refine g_3_3 C hE dX3_read_69 ho kw_2_21 rfl ?_
        have k69 : ms_is E (ms_at E o 3) 6 := ms_wt hE ho rfl (by decide)
        refine g_6_0 C dX3_read_72 k69 kw_1_219 rfl ?_
        refine a_if_eq (tgt := 106) C dX3_read_75 (by decide) rfl (fun hc => ?_) (fun hc => ?_)
        · replace h := h.1 hc
          refine a_sub (lv' := [(0, .ref (L o)), (3, .int x3)]) [0, 1] rfl ?_
          exact c_X3_read_106 C hr hlocks hE ho ha1  u x3  h
        · replace h := h.2 hc
          refine a_aload_n C dX3_read_78 rfl 0 rfl rfl ?_
          refine a_callVI C (c_X3_statement l G cy L E hE u o ho _ h) ho rfl (by decide) kw_4_66 kw_4_68 kp_17 kw_1_6 kw_4_69 rfl rfl pd_X3_statement ⟨(Nat.le_of_ble_eq_true rfl), (Nat.le_of_ble_eq_true rfl)⟩ dX3_read_79 rfl (Nat.le_of_ble_eq_true rfl) ⟨(Nat.le_of_ble_eq_true rfl), (Nat.le_of_ble_eq_true rfl)⟩ rfl (fun r79 u79 h => ?_)
          refine a_if_eq (tgt := 98) C dX3_read_82 (by decide) rfl (fun hc => ?_) (fun hc => ?_)
          · replace h := h.1 hc
            refine a_sub (lv' := [(0, .ref (L o)), (4, .int x4)]) [0, 2] rfl ?_
            exact c_X3_read_98 C hr hlocks hE ho ha1 ih u79 x4  h
          · replace h := h.2 hc
            refine a_aload_n C dX3_read_85 rfl 0 rfl rfl ?_
            refine a_bipush (v := 59) C dX3_read_86 (by decide) rfl ?_
            refine a_callVI C (c_X3_expect l G cy L E hE u79 o 59 ho _ h) ho rfl (by decide) kw_4_58 kw_4_60 kp_16 kw_1_6 kw_4_61 rfl rfl pd_X3_expect ⟨(Nat.le_of_ble_eq_true rfl), (Nat.le_of_ble_eq_true rfl)⟩ dX3_read_88 rfl (Nat.le_of_ble_eq_true rfl) ⟨(Nat.le_of_ble_eq_true rfl), (Nat.le_of_ble_eq_true rfl)⟩ rfl (fun r88 u88 h => ?_)
            refine a_if_eq (tgt := 98) C dX3_read_91 (by decide) rfl (fun hc => ?_) (fun hc => ?_)
            · replace h := h.1 hc
              refine a_sub (lv' := [(0, .ref (L o)), (4, .int x4)]) [0, 2] rfl ?_
              exact c_X3_read_98 C hr hlocks hE ho ha1 ih u88 x4  h
            · replace h := h.2 hc
              refine a_iconst (v := 1) C dX3_read_94 (by decide) rfl ?_
              refine a_goto (tgt := 99) C dX3_read_95 (by decide) ?_
              refine a_sub (lv' := [(0, .ref (L o)), (4, .int x4)]) [0, 2] rfl ?_
              exact c_X3_read_99 C hr hlocks hE ho ha1 ih u88 x4 1  h
def wp_X3_read (E : ms_En) (u : ms_St) (o : Nat) (a1 : Nat) (a2 : Int32) (post : Int32 → ms_St → Prop) : Prop := wp_X7_clear E u (ms_at E o 0) (fun u4 => wp_X8_clear E u4 (ms_at E o 4) (fun u11 => wp_X6_begin E (ms_sI (ms_sI (ms_sI (ms_sI (ms_sI u11 o 5 0) o 6 0) o 7 0) o 2 0) o 1 (-1)) (ms_at E o 3) a1 a2 (fun u45 => wp_X3_header E u45 o (fun r49 u49 => ∃ n56, wp_X3_read_56 E o a1 a2 post n56 u49 r49 0))))
set_option maxHeartbeats 4000000 in
set_option maxRecDepth 100000 in
theorem c_X3_read (l : Launch) (G : va_G) (cy : Nat → ClassId) (L : Nat → Nat) (E : ms_En) (hE : ms_WT E) (u : ms_St) (o : Nat) (a1 : Nat) (a2 : Int32) (ho : ms_is E o 3) (ha1 : ms_is E a1 12) (post : Int32 → ms_St → Prop) (h : wp_X3_read E u o a1 a2 post) : ms_MetI l ⟨"CensusWalk$SetupReader", "read", "([BI)I"⟩ (Cond.code ⟨"CensusWalk$SetupReader", "read", "([BI)I"⟩ prog_5_method_2_code 5 (some .int) :: lw_g) ({ frames := 46, cells := 0, slots := 0, locals := 2483 } : Room) G cy L E [.ref (L o), .ref (L a1), .int a2] u post 0 0 := by
  refine ms_enterI (lv := [(0, .ref (L o)), (1, .ref (L a1)), (2, .int a2)]) (by decide) (Nat.le_of_ble_eq_true rfl) rfl ?_
  intro p e s m args below meth c A C hr hlocks
  unfold wp_X3_read at h
  refine a_aload_n C dX3_read_0 rfl 0 rfl rfl ?_
  refine g_3_0 C hE dX3_read_1 ho kw_2_16 rfl ?_
  have k1 : ms_is E (ms_at E o 0) 7 := ms_wt hE ho rfl (by decide)
  refine a_callVV C (c_X7_clear l G cy L E hE u (ms_at E o 0) k1 _ h) k1 rfl (by decide) kw_3_208 kw_3_209 kw_3_210 kw_1_2 kw_3_211 rfl rfl pd_X7_clear ⟨(Nat.le_of_ble_eq_true rfl), (Nat.le_of_ble_eq_true rfl)⟩ dX3_read_4 rfl (Nat.le_of_ble_eq_true rfl) ⟨(Nat.le_of_ble_eq_true rfl), (Nat.le_of_ble_eq_true rfl)⟩ rfl (fun u4 h => ?_)
  refine a_aload_n C dX3_read_7 rfl 0 rfl rfl ?_
  refine g_3_4 C hE dX3_read_8 ho kw_2_22 rfl ?_
  have k8 : ms_is E (ms_at E o 4) 8 := ms_wt hE ho rfl (by decide)
  refine a_callVV C (c_X8_clear l G cy L E hE u4 (ms_at E o 4) k8 _ h) k8 rfl (by decide) kw_3_212 kw_3_213 kw_3_214 kw_1_8 kw_3_215 rfl rfl pd_X8_clear ⟨(Nat.le_of_ble_eq_true rfl), (Nat.le_of_ble_eq_true rfl)⟩ dX3_read_11 rfl (Nat.le_of_ble_eq_true rfl) ⟨(Nat.le_of_ble_eq_true rfl), (Nat.le_of_ble_eq_true rfl)⟩ rfl (fun u11 h => ?_)
  refine a_aload_n C dX3_read_14 rfl 0 rfl rfl ?_
  refine a_iconst (v := 0) C dX3_read_15 (by decide) rfl ?_
  refine s_3_5 C dX3_read_16 ho kw_2_23 rfl rfl rfl ?_
  refine a_aload_n C dX3_read_19 rfl 0 rfl rfl ?_
  refine a_iconst (v := 0) C dX3_read_20 (by decide) rfl ?_
  refine s_3_6 C dX3_read_21 ho kw_2_24 rfl rfl rfl ?_
  refine a_aload_n C dX3_read_24 rfl 0 rfl rfl ?_
  refine a_iconst (v := 0) C dX3_read_25 (by decide) rfl ?_
  refine s_3_7 C dX3_read_26 ho kw_2_25 rfl rfl rfl ?_
  refine a_aload_n C dX3_read_29 rfl 0 rfl rfl ?_
  refine a_iconst (v := 0) C dX3_read_30 (by decide) rfl ?_
  refine s_3_2 C dX3_read_31 ho kw_2_20 rfl ?_
  refine a_aload_n C dX3_read_34 rfl 0 rfl rfl ?_
  refine a_iconst (v := (-1)) C dX3_read_35 (by decide) rfl ?_
  refine s_3_1 C dX3_read_36 ho kw_2_18 rfl ?_
  refine a_aload_n C dX3_read_39 rfl 0 rfl rfl ?_
  refine g_3_3 C hE dX3_read_40 ho kw_2_21 rfl ?_
  have k40 : ms_is E (ms_at E o 3) 6 := ms_wt hE ho rfl (by decide)
  refine a_aload_n C dX3_read_43 rfl 1 rfl rfl ?_
  refine a_iload_n C dX3_read_44 rfl 2 rfl rfl ?_
  refine a_callVV C (c_X6_begin l G cy L E hE (ms_sI (ms_sI (ms_sI (ms_sI (ms_sI u11 o 5 0) o 6 0) o 7 0) o 2 0) o 1 (-1)) (ms_at E o 3) a1 a2 k40 ha1 _ h) k40 rfl (by decide) kw_3_216 kw_3_217 kw_3_218 kw_1_7 kw_3_219 rfl rfl pd_X6_begin ⟨(Nat.le_of_ble_eq_true rfl), (Nat.le_of_ble_eq_true rfl)⟩ dX3_read_45 rfl (Nat.le_of_ble_eq_true rfl) ⟨(Nat.le_of_ble_eq_true rfl), (Nat.le_of_ble_eq_true rfl)⟩ rfl (fun u45 h => ?_)
  refine a_aload_n C dX3_read_48 rfl 0 rfl rfl ?_
  refine a_callVI C (c_X3_header l G cy L E hE u45 o ho _ h) ho rfl (by decide) kw_3_232 kw_3_234 kp_13 kw_1_6 kw_3_235 rfl rfl pd_X3_header ⟨(Nat.le_of_ble_eq_true rfl), (Nat.le_of_ble_eq_true rfl)⟩ dX3_read_49 rfl (Nat.le_of_ble_eq_true rfl) ⟨(Nat.le_of_ble_eq_true rfl), (Nat.le_of_ble_eq_true rfl)⟩ rfl (fun r49 u49 h => ?_)
  refine a_istore_n (lv' := [(0, .ref (L o)), (1, .ref (L a1)), (2, .int a2), (3, .int r49)]) C dX3_read_52 rfl (by decide) [1, 2, 3, 0] rfl rfl ?_
  refine a_iconst (v := 0) C dX3_read_53 (by decide) rfl ?_
  refine a_istore (lv' := [(0, .ref (L o)), (1, .ref (L a1)), (2, .int a2), (3, .int r49), (4, .int 0)]) C dX3_read_54 (by decide) [1, 2, 3, 4, 0] rfl rfl ?_
  refine a_sub (lv' := [(0, .ref (L o)), (3, .int r49), (4, .int 0)]) [0, 3, 4] rfl ?_
  obtain ⟨n9, h⟩ := h
  exact c_X3_read_56 C hr hlocks hE ho ha1  n9 u49 r49 0  h
