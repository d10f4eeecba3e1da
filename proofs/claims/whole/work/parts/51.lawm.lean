/-! CensusWalkLaw.load(LCensusWalk;I[J)I -/
theorem pd_L_load : (⟨"CensusWalkLaw", "load", "(LCensusWalk;I[J)I"⟩ : MethodName).cls ≠ "java/lang/invoke/MethodHandle" ∧ (⟨"CensusWalkLaw", "load", "(LCensusWalk;I[J)I"⟩ : MethodName).cls ≠ "java/lang/invoke/VarHandle" ∧ (parseMethodDescriptor (⟨"CensusWalkLaw", "load", "(LCensusWalk;I[J)I"⟩ : MethodName).desc).map (fun d => d.parameters.length) = some 3 := by decide +kernel
def wp_L_load (E : ms_En) (u : ms_St) (a0 : Nat) (a1 : Int32) (a2 : Nat) (post : Int32 → ms_St → Prop) : Prop := wp_X10_load E u a0 a1 (fun r4 u4 => vp_in 0 (ms_N E a2) ∧ (post 0 (ms_sJ u4 a2 (Int32.toNatClampNeg 0) (Int32.toInt64 r4)))) (fun X9 u4x => (X9 = "java/lang/IllegalArgumentException" ∧ post 1 u4x))
set_option maxHeartbeats 4000000 in
set_option maxRecDepth 100000 in
theorem c_L_load (l : Launch) (G : va_G) (cy : Nat → ClassId) (L : Nat → Nat) (E : ms_En) (hE : ms_WT E) (hl9 : l.stackTraces = false) (u : ms_St) (a0 : Nat) (a1 : Int32) (a2 : Nat) (ha0 : ms_is E a0 10) (ha2 : ms_is E a2 14) (post : Int32 → ms_St → Prop) (h : wp_L_load E u a0 a1 a2 post) : ms_MetI l ⟨"CensusWalkLaw", "load", "(LCensusWalk;I[J)I"⟩ (Cond.codeWith ⟨"CensusWalkLaw", "load", "(LCensusWalk;I[J)I"⟩ method_3_code 4 (some .int) [(0, 9, 12, 13)] :: lw_g) ({ frames := 48, cells := 1, slots := 6, locals := 2529 } : Room) G cy L E [.ref (L a0), .int a1, .ref (L a2)] u post 1 6 := by
  refine ms_enterWI (lv := [(0, .ref (L a0)), (1, .int a1), (2, .ref (L a2))]) (by decide) (Nat.le_of_ble_eq_true rfl) rfl ?_
  intro p e s m args below meth c A C hr hlocks htab
  unfold wp_L_load at h
  refine a_aload_n C dL_load_0 rfl 2 rfl rfl ?_
  refine a_iconst (v := 0) C dL_load_1 (by decide) rfl ?_
  refine a_aload_n C dL_load_2 rfl 0 rfl rfl ?_
  refine a_iload_n C dL_load_3 rfl 1 rfl rfl ?_
  refine a_ycallI C (c_X10_load l G cy L E hE hl9 u a0 a1 ha0 _ _ h) ha0 rfl (by decide) kw_3_133 kw_3_134 kw_3_135 kw_1_1 kw_3_136 rfl rfl pd_X10_load ⟨(Nat.le_of_ble_eq_true rfl), (Nat.le_of_ble_eq_true rfl)⟩ dL_load_4 rfl (Nat.le_of_ble_eq_true rfl) ⟨(Nat.le_of_ble_eq_true rfl), (Nat.le_of_ble_eq_true rfl)⟩ rfl (fun X9 u4x h => ?_) (fun r4 u4 h => ?_)
  · obtain ⟨rfl, h⟩ := h
    refine a_catch C [] ⟨0, 9, 12, 13⟩ [] (htab.trans rfl) (fun z hz => absurd hz List.not_mem_nil) (by decide) (by decide) kw_3_132 (List.mem_of_getElem? (i := 0) rfl) (fun q9 => ?_)
    refine a_astore_n (lv' := [(0, .ref (L a0)), (1, .int a1), (2, .ref (L a2)), (3, .ref q9)]) C dL_load_12 rfl (by decide) [1, 2, 3, 0] rfl rfl ?_
    refine a_iconst (v := 1) C dL_load_13 (by decide) rfl ?_
    exact a_iret C dL_load_14 hr hlocks (Nat.le_of_ble_eq_true rfl) (Nat.le_of_ble_eq_true rfl) h
  · refine a_i2l C dL_load_7 rfl ?_
    obtain ⟨q8, h⟩ := h
    refine a_last C dL_load_8 ha2 rfl q8 rfl ?_
    refine a_goto (tgt := 15) C dL_load_9 (by decide) ?_
    refine a_iconst (v := 0) C dL_load_15 (by decide) rfl ?_
    exact a_iret C dL_load_16 hr hlocks (Nat.le_of_ble_eq_true rfl) (Nat.le_of_ble_eq_true rfl) h

/-! CensusWalkLaw.distance(LCensusWalk;II[J)I -/
theorem pd_L_distance : (⟨"CensusWalkLaw", "distance", "(LCensusWalk;II[J)I"⟩ : MethodName).cls ≠ "java/lang/invoke/MethodHandle" ∧ (⟨"CensusWalkLaw", "distance", "(LCensusWalk;II[J)I"⟩ : MethodName).cls ≠ "java/lang/invoke/VarHandle" ∧ (parseMethodDescriptor (⟨"CensusWalkLaw", "distance", "(LCensusWalk;II[J)I"⟩ : MethodName).desc).map (fun d => d.parameters.length) = some 4 := by decide +kernel
def wp_L_distance (E : ms_En) (u : ms_St) (a0 : Nat) (a1 : Int32) (a2 : Int32) (a3 : Nat) (post : Int32 → ms_St → Prop) : Prop := wp_X10_distance E u a0 a1 a2 (fun r5 u5 => vp_in 0 (ms_N E a3) ∧ (post 0 (ms_sJ u5 a3 (Int32.toNatClampNeg 0) (Int32.toInt64 r5)))) (fun X9 u5x => (X9 = "java/lang/IndexOutOfBoundsException" ∧ post 1 u5x))
set_option maxHeartbeats 4000000 in
set_option maxRecDepth 100000 in
theorem c_L_distance (l : Launch) (G : va_G) (cy : Nat → ClassId) (L : Nat → Nat) (E : ms_En) (hE : ms_WT E) (hl9 : l.stackTraces = false) (u : ms_St) (a0 : Nat) (a1 : Int32) (a2 : Int32) (a3 : Nat) (ha0 : ms_is E a0 10) (ha3 : ms_is E a3 14) (post : Int32 → ms_St → Prop) (h : wp_L_distance E u a0 a1 a2 a3 post) : ms_MetI l ⟨"CensusWalkLaw", "distance", "(LCensusWalk;II[J)I"⟩ (Cond.codeWith ⟨"CensusWalkLaw", "distance", "(LCensusWalk;II[J)I"⟩ method_4_code 5 (some .int) [(0, 10, 13, 19)] :: lw_g) ({ frames := 8, cells := 2, slots := 12, locals := 163 } : Room) G cy L E [.ref (L a0), .int a1, .int a2, .ref (L a3)] u post 2 12 := by
  refine ms_enterWI (lv := [(0, .ref (L a0)), (1, .int a1), (2, .int a2), (3, .ref (L a3))]) (by decide) (Nat.le_of_ble_eq_true rfl) rfl ?_
  intro p e s m args below meth c A C hr hlocks htab
  unfold wp_L_distance at h
  refine a_aload_n C dL_distance_0 rfl 3 rfl rfl ?_
  refine a_iconst (v := 0) C dL_distance_1 (by decide) rfl ?_
  refine a_aload_n C dL_distance_2 rfl 0 rfl rfl ?_
  refine a_iload_n C dL_distance_3 rfl 1 rfl rfl ?_
  refine a_iload_n C dL_distance_4 rfl 2 rfl rfl ?_
  refine a_ycallI C (c_X10_distance l G cy L E hE hl9 u a0 a1 a2 ha0 _ _ h) ha0 rfl (by decide) kw_4_148 kw_4_149 kw_4_150 kw_1_1 kw_4_151 rfl rfl pd_X10_distance ⟨(Nat.le_of_ble_eq_true rfl), (Nat.le_of_ble_eq_true rfl)⟩ dL_distance_5 rfl (Nat.le_of_ble_eq_true rfl) ⟨(Nat.le_of_ble_eq_true rfl), (Nat.le_of_ble_eq_true rfl)⟩ rfl (fun X9 u5x h => ?_) (fun r5 u5 h => ?_)
  · obtain ⟨rfl, h⟩ := h
    refine a_catch C [] ⟨0, 10, 13, 19⟩ [] (htab.trans rfl) (fun z hz => absurd hz List.not_mem_nil) (by decide) (by decide) kw_4_147 (List.mem_of_getElem? (i := 1) rfl) (fun q9 => ?_)
    refine a_astore (lv' := [(0, .ref (L a0)), (1, .int a1), (2, .int a2), (3, .ref (L a3)), (4, .ref q9)]) C dL_distance_13 (by decide) [1, 2, 3, 4, 0] rfl rfl ?_
    refine a_iconst (v := 1) C dL_distance_15 (by decide) rfl ?_
    exact a_iret C dL_distance_16 hr hlocks (Nat.le_of_ble_eq_true rfl) (Nat.le_of_ble_eq_true rfl) h
  · refine a_i2l C dL_distance_8 rfl ?_
    obtain ⟨q9, h⟩ := h
    refine a_last C dL_distance_9 ha3 rfl q9 rfl ?_
    refine a_goto (tgt := 17) C dL_distance_10 (by decide) ?_
    refine a_iconst (v := 0) C dL_distance_17 (by decide) rfl ?_
    exact a_iret C dL_distance_18 hr hlocks (Nat.le_of_ble_eq_true rfl) (Nat.le_of_ble_eq_true rfl) h

/-! CensusWalkLaw.distanceFrom(LCensusWalk;II[J)I -/
theorem pd_L_distanceFrom : (⟨"CensusWalkLaw", "distanceFrom", "(LCensusWalk;II[J)I"⟩ : MethodName).cls ≠ "java/lang/invoke/MethodHandle" ∧ (⟨"CensusWalkLaw", "distanceFrom", "(LCensusWalk;II[J)I"⟩ : MethodName).cls ≠ "java/lang/invoke/VarHandle" ∧ (parseMethodDescriptor (⟨"CensusWalkLaw", "distanceFrom", "(LCensusWalk;II[J)I"⟩ : MethodName).desc).map (fun d => d.parameters.length) = some 4 := by decide +kernel
def wp_L_distanceFrom (E : ms_En) (u : ms_St) (a0 : Nat) (a1 : Int32) (a2 : Int32) (a3 : Nat) (post : Int32 → ms_St → Prop) : Prop := wp_X10_distanceFrom E u a0 a1 a2 (fun r5 u5 => vp_in 0 (ms_N E a3) ∧ (post 0 (ms_sJ u5 a3 (Int32.toNatClampNeg 0) (Int32.toInt64 r5)))) (fun X9 u5x => (X9 = "java/lang/IndexOutOfBoundsException" ∧ post 1 u5x))
set_option maxHeartbeats 4000000 in
set_option maxRecDepth 100000 in
theorem c_L_distanceFrom (l : Launch) (G : va_G) (cy : Nat → ClassId) (L : Nat → Nat) (E : ms_En) (hE : ms_WT E) (hl9 : l.stackTraces = false) (u : ms_St) (a0 : Nat) (a1 : Int32) (a2 : Int32) (a3 : Nat) (ha0 : ms_is E a0 10) (ha3 : ms_is E a3 14) (post : Int32 → ms_St → Prop) (h : wp_L_distanceFrom E u a0 a1 a2 a3 post) : ms_MetI l ⟨"CensusWalkLaw", "distanceFrom", "(LCensusWalk;II[J)I"⟩ (Cond.codeWith ⟨"CensusWalkLaw", "distanceFrom", "(LCensusWalk;II[J)I"⟩ method_5_code 5 (some .int) [(0, 10, 13, 19)] :: lw_g) ({ frames := 8, cells := 2, slots := 12, locals := 163 } : Room) G cy L E [.ref (L a0), .int a1, .int a2, .ref (L a3)] u post 2 12 := by
  refine ms_enterWI (lv := [(0, .ref (L a0)), (1, .int a1), (2, .int a2), (3, .ref (L a3))]) (by decide) (Nat.le_of_ble_eq_true rfl) rfl ?_
  intro p e s m args below meth c A C hr hlocks htab
  unfold wp_L_distanceFrom at h
  refine a_aload_n C dL_distanceFrom_0 rfl 3 rfl rfl ?_
  refine a_iconst (v := 0) C dL_distanceFrom_1 (by decide) rfl ?_
  refine a_aload_n C dL_distanceFrom_2 rfl 0 rfl rfl ?_
  refine a_iload_n C dL_distanceFrom_3 rfl 1 rfl rfl ?_
  refine a_iload_n C dL_distanceFrom_4 rfl 2 rfl rfl ?_
  refine a_ycallI C (c_X10_distanceFrom l G cy L E hE hl9 u a0 a1 a2 ha0 _ _ h) ha0 rfl (by decide) kw_4_177 kw_4_178 kw_4_179 kw_1_1 kw_4_180 rfl rfl pd_X10_distanceFrom ⟨(Nat.le_of_ble_eq_true rfl), (Nat.le_of_ble_eq_true rfl)⟩ dL_distanceFrom_5 rfl (Nat.le_of_ble_eq_true rfl) ⟨(Nat.le_of_ble_eq_true rfl), (Nat.le_of_ble_eq_true rfl)⟩ rfl (fun X9 u5x h => ?_) (fun r5 u5 h => ?_)
  · obtain ⟨rfl, h⟩ := h
    refine a_catch C [] ⟨0, 10, 13, 19⟩ [] (htab.trans rfl) (fun z hz => absurd hz List.not_mem_nil) (by decide) (by decide) kw_4_147 (List.mem_of_getElem? (i := 1) rfl) (fun q9 => ?_)
    refine a_astore (lv' := [(0, .ref (L a0)), (1, .int a1), (2, .int a2), (3, .ref (L a3)), (4, .ref q9)]) C dL_distanceFrom_13 (by decide) [1, 2, 3, 4, 0] rfl rfl ?_
    refine a_iconst (v := 1) C dL_distanceFrom_15 (by decide) rfl ?_
    exact a_iret C dL_distanceFrom_16 hr hlocks (Nat.le_of_ble_eq_true rfl) (Nat.le_of_ble_eq_true rfl) h
  · refine a_i2l C dL_distanceFrom_8 rfl ?_
    obtain ⟨q9, h⟩ := h
    refine a_last C dL_distanceFrom_9 ha3 rfl q9 rfl ?_
    refine a_goto (tgt := 17) C dL_distanceFrom_10 (by decide) ?_
    refine a_iconst (v := 0) C dL_distanceFrom_17 (by decide) rfl ?_
    exact a_iret C dL_distanceFrom_18 hr hlocks (Nat.le_of_ble_eq_true rfl) (Nat.le_of_ble_eq_true rfl) h

/-! CensusWalkLaw.streetOf(LCensusWalk;I[J)I -/
theorem pd_L_streetOf : (⟨"CensusWalkLaw", "streetOf", "(LCensusWalk;I[J)I"⟩ : MethodName).cls ≠ "java/lang/invoke/MethodHandle" ∧ (⟨"CensusWalkLaw", "streetOf", "(LCensusWalk;I[J)I"⟩ : MethodName).cls ≠ "java/lang/invoke/VarHandle" ∧ (parseMethodDescriptor (⟨"CensusWalkLaw", "streetOf", "(LCensusWalk;I[J)I"⟩ : MethodName).desc).map (fun d => d.parameters.length) = some 3 := by decide +kernel
def wp_L_streetOf (E : ms_En) (u : ms_St) (a0 : Nat) (a1 : Int32) (a2 : Nat) (post : Int32 → ms_St → Prop) : Prop := wp_X10_streetOf E u a0 a1 (fun r4 u4 => vp_in 0 (ms_N E a2) ∧ (post 0 (ms_sJ u4 a2 (Int32.toNatClampNeg 0) (Int32.toInt64 r4)))) (fun X9 u4x => (X9 = "java/lang/IndexOutOfBoundsException" ∧ post 1 u4x))
set_option maxHeartbeats 4000000 in
set_option maxRecDepth 100000 in
theorem c_L_streetOf (l : Launch) (G : va_G) (cy : Nat → ClassId) (L : Nat → Nat) (E : ms_En) (hE : ms_WT E) (hl9 : l.stackTraces = false) (u : ms_St) (a0 : Nat) (a1 : Int32) (a2 : Nat) (ha0 : ms_is E a0 10) (ha2 : ms_is E a2 14) (post : Int32 → ms_St → Prop) (h : wp_L_streetOf E u a0 a1 a2 post) : ms_MetI l ⟨"CensusWalkLaw", "streetOf", "(LCensusWalk;I[J)I"⟩ (Cond.codeWith ⟨"CensusWalkLaw", "streetOf", "(LCensusWalk;I[J)I"⟩ method_6_code 4 (some .int) [(0, 9, 12, 19)] :: lw_g) ({ frames := 8, cells := 1, slots := 6, locals := 162 } : Room) G cy L E [.ref (L a0), .int a1, .ref (L a2)] u post 1 6 := by
  refine ms_enterWI (lv := [(0, .ref (L a0)), (1, .int a1), (2, .ref (L a2))]) (by decide) (Nat.le_of_ble_eq_true rfl) rfl ?_
  intro p e s m args below meth c A C hr hlocks htab
  unfold wp_L_streetOf at h
  refine a_aload_n C dL_streetOf_0 rfl 2 rfl rfl ?_
  refine a_iconst (v := 0) C dL_streetOf_1 (by decide) rfl ?_
  refine a_aload_n C dL_streetOf_2 rfl 0 rfl rfl ?_
  refine a_iload_n C dL_streetOf_3 rfl 1 rfl rfl ?_
  refine a_ycallI C (c_X10_streetOf l G cy L E hE hl9 u a0 a1 ha0 _ _ h) ha0 rfl (by decide) kw_4_186 kw_4_187 kw_4_188 kw_1_1 kw_4_189 rfl rfl pd_X10_streetOf ⟨(Nat.le_of_ble_eq_true rfl), (Nat.le_of_ble_eq_true rfl)⟩ dL_streetOf_4 rfl (Nat.le_of_ble_eq_true rfl) ⟨(Nat.le_of_ble_eq_true rfl), (Nat.le_of_ble_eq_true rfl)⟩ rfl (fun X9 u4x h => ?_) (fun r4 u4 h => ?_)
  · obtain ⟨rfl, h⟩ := h
    refine a_catch C [] ⟨0, 9, 12, 19⟩ [] (htab.trans rfl) (fun z hz => absurd hz List.not_mem_nil) (by decide) (by decide) kw_4_147 (List.mem_of_getElem? (i := 1) rfl) (fun q9 => ?_)
    refine a_astore_n (lv' := [(0, .ref (L a0)), (1, .int a1), (2, .ref (L a2)), (3, .ref q9)]) C dL_streetOf_12 rfl (by decide) [1, 2, 3, 0] rfl rfl ?_
    refine a_iconst (v := 1) C dL_streetOf_13 (by decide) rfl ?_
    exact a_iret C dL_streetOf_14 hr hlocks (Nat.le_of_ble_eq_true rfl) (Nat.le_of_ble_eq_true rfl) h
  · refine a_i2l C dL_streetOf_7 rfl ?_
    obtain ⟨q8, h⟩ := h
    refine a_last C dL_streetOf_8 ha2 rfl q8 rfl ?_
    refine a_goto (tgt := 15) C dL_streetOf_9 (by decide) ?_
    refine a_iconst (v := 0) C dL_streetOf_15 (by decide) rfl ?_
    exact a_iret C dL_streetOf_16 hr hlocks (Nat.le_of_ble_eq_true rfl) (Nat.le_of_ble_eq_true rfl) h

/-! CensusWalkLaw.isOpen(LCensusWalk;I[J)I -/
theorem pd_L_isOpen : (⟨"CensusWalkLaw", "isOpen", "(LCensusWalk;I[J)I"⟩ : MethodName).cls ≠ "java/lang/invoke/MethodHandle" ∧ (⟨"CensusWalkLaw", "isOpen", "(LCensusWalk;I[J)I"⟩ : MethodName).cls ≠ "java/lang/invoke/VarHandle" ∧ (parseMethodDescriptor (⟨"CensusWalkLaw", "isOpen", "(LCensusWalk;I[J)I"⟩ : MethodName).desc).map (fun d => d.parameters.length) = some 3 := by decide +kernel
def wp_L_isOpen_15 (E : ms_En) (a0 : Nat) (a1 : Int32) (a2 : Nat) (post : Int32 → ms_St → Prop)  (u : ms_St) (z0 : Int64) (z1 : Int32) (z2 : Nat) : Prop := vp_in z1 (ms_N E z2) ∧ (post 0 (ms_sJ u z2 (Int32.toNatClampNeg z1) z0))
set_option maxHeartbeats 4000000 in
set_option maxRecDepth 100000 in
theorem c_L_isOpen_15 {p : Program} {l : Launch} {e : Env} {s : State} {m : MethodId} {args : Array Value} {below : List Frame} {meth : Method} {c : Code} {G : va_G} {cy : Nat → ClassId} {A : Nat → Prop} {L : Nat → Nat} {E : ms_En} (C : ms_Cx p m c cL_isOpen 4 s args (Cond.codeWith ⟨"CensusWalkLaw", "isOpen", "(LCensusWalk;I[J)I"⟩ method_7_code 4 (some .int) [(0, 16, 19, 19)]) "CensusWalkLaw" G cy A) (hr : meth.sig.returnType = (some .int)) (hlocks : meth.locks = false) (htab : c.exceptionTable.toList = tableOf [(0, 16, 19, 19)]) (hl9 : l.stackTraces = false) (hE : ms_WT E) {a0 : Nat} {a1 : Int32} {a2 : Nat} {post : Int32 → ms_St → Prop}  (ha0 : ms_is E a0 10) (ha2 : ms_is E a2 14)  (u : ms_St) (z0 : Int64) (z1 : Int32) (z2 : Nat) (k_z2 : ms_is E z2 14) (h : wp_L_isOpen_15 E a0 a1 a2 post u z0 z1 z2) : ms_At p l e ({ frames := 8, cells := 1, slots := 6, locals := 162 } : Room) s m args below meth c 4 G cy A L 1 6 (ms_QI below args s G cy L E A post 1 6) E u 15 [] [.long z0, .int z1, .ref (L z2)] := by
  unfold wp_L_isOpen_15 at h
  obtain ⟨q15, h⟩ := h
  refine a_last C dL_isOpen_15 k_z2 rfl q15 rfl ?_
  refine a_goto (tgt := 22) C dL_isOpen_16 (by decide) ?_
  refine a_iconst (v := 0) C dL_isOpen_22 (by decide) rfl ?_
  exact a_iret C dL_isOpen_23 hr hlocks (Nat.le_of_ble_eq_true rfl) (Nat.le_of_ble_eq_true rfl) h
def wp_L_isOpen (E : ms_En) (u : ms_St) (a0 : Nat) (a1 : Int32) (a2 : Nat) (post : Int32 → ms_St → Prop) : Prop := wp_X10_isOpen E u a0 a1 (fun r4 u4 => (r4 = 0 → wp_L_isOpen_15 E a0 a1 a2 post u4 0 0 a2) ∧ (¬ r4 = 0 → wp_L_isOpen_15 E a0 a1 a2 post u4 1 0 a2)) (fun X9 u4x => (X9 = "java/lang/IndexOutOfBoundsException" ∧ post 1 u4x))
set_option maxHeartbeats 4000000 in
set_option maxRecDepth 100000 in
theorem c_L_isOpen (l : Launch) (G : va_G) (cy : Nat → ClassId) (L : Nat → Nat) (E : ms_En) (hE : ms_WT E) (hl9 : l.stackTraces = false) (u : ms_St) (a0 : Nat) (a1 : Int32) (a2 : Nat) (ha0 : ms_is E a0 10) (ha2 : ms_is E a2 14) (post : Int32 → ms_St → Prop) (h : wp_L_isOpen E u a0 a1 a2 post) : ms_MetI l ⟨"CensusWalkLaw", "isOpen", "(LCensusWalk;I[J)I"⟩ (Cond.codeWith ⟨"CensusWalkLaw", "isOpen", "(LCensusWalk;I[J)I"⟩ method_7_code 4 (some .int) [(0, 16, 19, 19)] :: lw_g) ({ frames := 8, cells := 1, slots := 6, locals := 162 } : Room) G cy L E [.ref (L a0), .int a1, .ref (L a2)] u post 1 6 := by
  refine ms_enterWI (lv := [(0, .ref (L a0)), (1, .int a1), (2, .ref (L a2))]) (by decide) (Nat.le_of_ble_eq_true rfl) rfl ?_
  intro p e s m args below meth c A C hr hlocks htab
  unfold wp_L_isOpen at h
  refine a_aload_n C dL_isOpen_0 rfl 2 rfl rfl ?_
  refine a_iconst (v := 0) C dL_isOpen_1 (by decide) rfl ?_
  refine a_aload_n C dL_isOpen_2 rfl 0 rfl rfl ?_
  refine a_iload_n C dL_isOpen_3 rfl 1 rfl rfl ?_
  refine a_ycallI C (c_X10_isOpen l G cy L E hE hl9 u a0 a1 ha0 _ _ h) ha0 rfl (by decide) kw_4_193 kw_4_194 kw_4_195 kw_1_1 kw_4_196 rfl rfl pd_X10_isOpen ⟨(Nat.le_of_ble_eq_true rfl), (Nat.le_of_ble_eq_true rfl)⟩ dL_isOpen_4 rfl (Nat.le_of_ble_eq_true rfl) ⟨(Nat.le_of_ble_eq_true rfl), (Nat.le_of_ble_eq_true rfl)⟩ rfl (fun X9 u4x h => ?_) (fun r4 u4 h => ?_)
  · obtain ⟨rfl, h⟩ := h
    refine a_catch C [] ⟨0, 16, 19, 19⟩ [] (htab.trans rfl) (fun z hz => absurd hz List.not_mem_nil) (by decide) (by decide) kw_4_147 (List.mem_of_getElem? (i := 1) rfl) (fun q9 => ?_)
    refine a_astore_n (lv' := [(0, .ref (L a0)), (1, .int a1), (2, .ref (L a2)), (3, .ref q9)]) C dL_isOpen_19 rfl (by decide) [1, 2, 3, 0] rfl rfl ?_
    refine a_iconst (v := 1) C dL_isOpen_20 (by decide) rfl ?_
    exact a_iret C dL_isOpen_21 hr hlocks (Nat.le_of_ble_eq_true rfl) (Nat.le_of_ble_eq_true rfl) h
  · refine a_if_eq (tgt := 14) C dL_isOpen_7 (by decide) rfl (fun hc => ?_) (fun hc => ?_)
    · replace h := h.1 hc
      refine a_lconst (v := 0) C dL_isOpen_14 (by decide) rfl ?_
      refine a_wid (k := 1) (n := 6) (Nat.le_of_ble_eq_true rfl) (Nat.le_of_ble_eq_true rfl) ?_
      refine a_sub (lv' := []) [] rfl ?_
      exact c_L_isOpen_15 C hr hlocks htab hl9 hE ha0 ha2  u4 0 0 a2 ha2 h
    · replace h := h.2 hc
      refine a_lconst (v := 1) C dL_isOpen_10 (by decide) rfl ?_
      refine a_goto (tgt := 15) C dL_isOpen_11 (by decide) ?_
      refine a_wid (k := 1) (n := 6) (Nat.le_of_ble_eq_true rfl) (Nat.le_of_ble_eq_true rfl) ?_
      refine a_sub (lv' := []) [] rfl ?_
      exact c_L_isOpen_15 C hr hlocks htab hl9 hE ha0 ha2  u4 1 0 a2 ha2 h

/-! CensusWalkLaw.hasDog(LCensusWalk;I[J)I -/
theorem pd_L_hasDog : (⟨"CensusWalkLaw", "hasDog", "(LCensusWalk;I[J)I"⟩ : MethodName).cls ≠ "java/lang/invoke/MethodHandle" ∧ (⟨"CensusWalkLaw", "hasDog", "(LCensusWalk;I[J)I"⟩ : MethodName).cls ≠ "java/lang/invoke/VarHandle" ∧ (parseMethodDescriptor (⟨"CensusWalkLaw", "hasDog", "(LCensusWalk;I[J)I"⟩ : MethodName).desc).map (fun d => d.parameters.length) = some 3 := by decide +kernel
def wp_L_hasDog_15 (E : ms_En) (a0 : Nat) (a1 : Int32) (a2 : Nat) (post : Int32 → ms_St → Prop)  (u : ms_St) (z0 : Int64) (z1 : Int32) (z2 : Nat) : Prop := vp_in z1 (ms_N E z2) ∧ (post 0 (ms_sJ u z2 (Int32.toNatClampNeg z1) z0))
set_option maxHeartbeats 4000000 in
set_option maxRecDepth 100000 in
theorem c_L_hasDog_15 {p : Program} {l : Launch} {e : Env} {s : State} {m : MethodId} {args : Array Value} {below : List Frame} {meth : Method} {c : Code} {G : va_G} {cy : Nat → ClassId} {A : Nat → Prop} {L : Nat → Nat} {E : ms_En} (C : ms_Cx p m c cL_hasDog 4 s args (Cond.codeWith ⟨"CensusWalkLaw", "hasDog", "(LCensusWalk;I[J)I"⟩ method_8_code 4 (some .int) [(0, 16, 19, 19)]) "CensusWalkLaw" G cy A) (hr : meth.sig.returnType = (some .int)) (hlocks : meth.locks = false) (htab : c.exceptionTable.toList = tableOf [(0, 16, 19, 19)]) (hl9 : l.stackTraces = false) (hE : ms_WT E) {a0 : Nat} {a1 : Int32} {a2 : Nat} {post : Int32 → ms_St → Prop}  (ha0 : ms_is E a0 10) (ha2 : ms_is E a2 14)  (u : ms_St) (z0 : Int64) (z1 : Int32) (z2 : Nat) (k_z2 : ms_is E z2 14) (h : wp_L_hasDog_15 E a0 a1 a2 post u z0 z1 z2) : ms_At p l e ({ frames := 8, cells := 1, slots := 6, locals := 162 } : Room) s m args below meth c 4 G cy A L 1 6 (ms_QI below args s G cy L E A post 1 6) E u 15 [] [.long z0, .int z1, .ref (L z2)] := by
  unfold wp_L_hasDog_15 at h
  obtain ⟨q15, h⟩ := h
  refine a_last C dL_hasDog_15 k_z2 rfl q15 rfl ?_
  refine a_goto (tgt := 22) C dL_hasDog_16 (by decide) ?_
  refine a_iconst (v := 0) C dL_hasDog_22 (by decide) rfl ?_
  exact a_iret C dL_hasDog_23 hr hlocks (Nat.le_of_ble_eq_true rfl) (Nat.le_of_ble_eq_true rfl) h
def wp_L_hasDog (E : ms_En) (u : ms_St) (a0 : Nat) (a1 : Int32) (a2 : Nat) (post : Int32 → ms_St → Prop) : Prop := wp_X10_hasDog E u a0 a1 (fun r4 u4 => (r4 = 0 → wp_L_hasDog_15 E a0 a1 a2 post u4 0 0 a2) ∧ (¬ r4 = 0 → wp_L_hasDog_15 E a0 a1 a2 post u4 1 0 a2)) (fun X9 u4x => (X9 = "java/lang/IndexOutOfBoundsException" ∧ post 1 u4x))
set_option maxHeartbeats 4000000 in
set_option maxRecDepth 100000 in
theorem c_L_hasDog (l : Launch) (G : va_G) (cy : Nat → ClassId) (L : Nat → Nat) (E : ms_En) (hE : ms_WT E) (hl9 : l.stackTraces = false) (u : ms_St) (a0 : Nat) (a1 : Int32) (a2 : Nat) (ha0 : ms_is E a0 10) (ha2 : ms_is E a2 14) (post : Int32 → ms_St → Prop) (h : wp_L_hasDog E u a0 a1 a2 post) : ms_MetI l ⟨"CensusWalkLaw", "hasDog", "(LCensusWalk;I[J)I"⟩ (Cond.codeWith ⟨"CensusWalkLaw", "hasDog", "(LCensusWalk;I[J)I"⟩ method_8_code 4 (some .int) [(0, 16, 19, 19)] :: lw_g) ({ frames := 8, cells := 1, slots := 6, locals := 162 } : Room) G cy L E [.ref (L a0), .int a1, .ref (L a2)] u post 1 6 := by
  refine ms_enterWI (lv := [(0, .ref (L a0)), (1, .int a1), (2, .ref (L a2))]) (by decide) (Nat.le_of_ble_eq_true rfl) rfl ?_
  intro p e s m args below meth c A C hr hlocks htab
  unfold wp_L_hasDog at h
  refine a_aload_n C dL_hasDog_0 rfl 2 rfl rfl ?_
  refine a_iconst (v := 0) C dL_hasDog_1 (by decide) rfl ?_
  refine a_aload_n C dL_hasDog_2 rfl 0 rfl rfl ?_
  refine a_iload_n C dL_hasDog_3 rfl 1 rfl rfl ?_
  refine a_ycallI C (c_X10_hasDog l G cy L E hE hl9 u a0 a1 ha0 _ _ h) ha0 rfl (by decide) kw_4_206 kw_4_207 kw_4_208 kw_1_1 kw_4_209 rfl rfl pd_X10_hasDog ⟨(Nat.le_of_ble_eq_true rfl), (Nat.le_of_ble_eq_true rfl)⟩ dL_hasDog_4 rfl (Nat.le_of_ble_eq_true rfl) ⟨(Nat.le_of_ble_eq_true rfl), (Nat.le_of_ble_eq_true rfl)⟩ rfl (fun X9 u4x h => ?_) (fun r4 u4 h => ?_)
  · obtain ⟨rfl, h⟩ := h
    refine a_catch C [] ⟨0, 16, 19, 19⟩ [] (htab.trans rfl) (fun z hz => absurd hz List.not_mem_nil) (by decide) (by decide) kw_4_147 (List.mem_of_getElem? (i := 1) rfl) (fun q9 => ?_)
    refine a_astore_n (lv' := [(0, .ref (L a0)), (1, .int a1), (2, .ref (L a2)), (3, .ref q9)]) C dL_hasDog_19 rfl (by decide) [1, 2, 3, 0] rfl rfl ?_
    refine a_iconst (v := 1) C dL_hasDog_20 (by decide) rfl ?_
    exact a_iret C dL_hasDog_21 hr hlocks (Nat.le_of_ble_eq_true rfl) (Nat.le_of_ble_eq_true rfl) h
  · refine a_if_eq (tgt := 14) C dL_hasDog_7 (by decide) rfl (fun hc => ?_) (fun hc => ?_)
    · replace h := h.1 hc
      refine a_lconst (v := 0) C dL_hasDog_14 (by decide) rfl ?_
      refine a_wid (k := 1) (n := 6) (Nat.le_of_ble_eq_true rfl) (Nat.le_of_ble_eq_true rfl) ?_
      refine a_sub (lv' := []) [] rfl ?_
      exact c_L_hasDog_15 C hr hlocks htab hl9 hE ha0 ha2  u4 0 0 a2 ha2 h
    · replace h := h.2 hc
      refine a_lconst (v := 1) C dL_hasDog_10 (by decide) rfl ?_
      refine a_goto (tgt := 15) C dL_hasDog_11 (by decide) ?_
      refine a_wid (k := 1) (n := 6) (Nat.le_of_ble_eq_true rfl) (Nat.le_of_ble_eq_true rfl) ?_
      refine a_sub (lv' := []) [] rfl ?_
      exact c_L_hasDog_15 C hr hlocks htab hl9 hE ha0 ha2  u4 1 0 a2 ha2 h

/-! CensusWalkLaw.isHome(LCensusWalk;II[J)I -/
theorem pd_L_isHome : (⟨"CensusWalkLaw", "isHome", "(LCensusWalk;II[J)I"⟩ : MethodName).cls ≠ "java/lang/invoke/MethodHandle" ∧ (⟨"CensusWalkLaw", "isHome", "(LCensusWalk;II[J)I"⟩ : MethodName).cls ≠ "java/lang/invoke/VarHandle" ∧ (parseMethodDescriptor (⟨"CensusWalkLaw", "isHome", "(LCensusWalk;II[J)I"⟩ : MethodName).desc).map (fun d => d.parameters.length) = some 4 := by decide +kernel
def wp_L_isHome_16 (E : ms_En) (a0 : Nat) (a1 : Int32) (a2 : Int32) (a3 : Nat) (post : Int32 → ms_St → Prop)  (u : ms_St) (z0 : Int64) (z1 : Int32) (z2 : Nat) : Prop := vp_in z1 (ms_N E z2) ∧ (post 0 (ms_sJ u z2 (Int32.toNatClampNeg z1) z0))
set_option maxHeartbeats 4000000 in
set_option maxRecDepth 100000 in
theorem c_L_isHome_16 {p : Program} {l : Launch} {e : Env} {s : State} {m : MethodId} {args : Array Value} {below : List Frame} {meth : Method} {c : Code} {G : va_G} {cy : Nat → ClassId} {A : Nat → Prop} {L : Nat → Nat} {E : ms_En} (C : ms_Cx p m c cL_isHome 5 s args (Cond.codeWith ⟨"CensusWalkLaw", "isHome", "(LCensusWalk;II[J)I"⟩ method_9_code 5 (some .int) [(0, 17, 20, 19), (0, 17, 24, 13)]) "CensusWalkLaw" G cy A) (hr : meth.sig.returnType = (some .int)) (hlocks : meth.locks = false) (htab : c.exceptionTable.toList = tableOf [(0, 17, 20, 19), (0, 17, 24, 13)]) (hl9 : l.stackTraces = false) (hE : ms_WT E) {a0 : Nat} {a1 : Int32} {a2 : Int32} {a3 : Nat} {post : Int32 → ms_St → Prop}  (ha0 : ms_is E a0 10) (ha3 : ms_is E a3 14)  (u : ms_St) (z0 : Int64) (z1 : Int32) (z2 : Nat) (k_z2 : ms_is E z2 14) (h : wp_L_isHome_16 E a0 a1 a2 a3 post u z0 z1 z2) : ms_At p l e ({ frames := 8, cells := 2, slots := 12, locals := 163 } : Room) s m args below meth c 5 G cy A L 2 12 (ms_QI below args s G cy L E A post 2 12) E u 16 [] [.long z0, .int z1, .ref (L z2)] := by
  unfold wp_L_isHome_16 at h
  obtain ⟨q16, h⟩ := h
  refine a_last C dL_isHome_16 k_z2 rfl q16 rfl ?_
  refine a_goto (tgt := 28) C dL_isHome_17 (by decide) ?_
  refine a_iconst (v := 0) C dL_isHome_28 (by decide) rfl ?_
  exact a_iret C dL_isHome_29 hr hlocks (Nat.le_of_ble_eq_true rfl) (Nat.le_of_ble_eq_true rfl) h
def wp_L_isHome (E : ms_En) (u : ms_St) (a0 : Nat) (a1 : Int32) (a2 : Int32) (a3 : Nat) (post : Int32 → ms_St → Prop) : Prop := wp_X10_isHome E u a0 a1 a2 (fun r5 u5 => (r5 = 0 → wp_L_isHome_16 E a0 a1 a2 a3 post u5 0 0 a3) ∧ (¬ r5 = 0 → wp_L_isHome_16 E a0 a1 a2 a3 post u5 1 0 a3)) (fun X9 u5x => (X9 = "java/lang/IndexOutOfBoundsException" ∧ post 1 u5x) ∨ (X9 = "java/lang/IllegalArgumentException" ∧ post 2 u5x))
set_option maxHeartbeats 4000000 in
set_option maxRecDepth 100000 in
theorem c_L_isHome (l : Launch) (G : va_G) (cy : Nat → ClassId) (L : Nat → Nat) (E : ms_En) (hE : ms_WT E) (hl9 : l.stackTraces = false) (u : ms_St) (a0 : Nat) (a1 : Int32) (a2 : Int32) (a3 : Nat) (ha0 : ms_is E a0 10) (ha3 : ms_is E a3 14) (post : Int32 → ms_St → Prop) (h : wp_L_isHome E u a0 a1 a2 a3 post) : ms_MetI l ⟨"CensusWalkLaw", "isHome", "(LCensusWalk;II[J)I"⟩ (Cond.codeWith ⟨"CensusWalkLaw", "isHome", "(LCensusWalk;II[J)I"⟩ method_9_code 5 (some .int) [(0, 17, 20, 19), (0, 17, 24, 13)] :: lw_g) ({ frames := 8, cells := 2, slots := 12, locals := 163 } : Room) G cy L E [.ref (L a0), .int a1, .int a2, .ref (L a3)] u post 2 12 := by
  refine ms_enterWI (lv := [(0, .ref (L a0)), (1, .int a1), (2, .int a2), (3, .ref (L a3))]) (by decide) (Nat.le_of_ble_eq_true rfl) rfl ?_
  intro p e s m args below meth c A C hr hlocks htab
  unfold wp_L_isHome at h
  refine a_aload_n C dL_isHome_0 rfl 3 rfl rfl ?_
  refine a_iconst (v := 0) C dL_isHome_1 (by decide) rfl ?_
  refine a_aload_n C dL_isHome_2 rfl 0 rfl rfl ?_
  refine a_iload_n C dL_isHome_3 rfl 1 rfl rfl ?_
  refine a_iload_n C dL_isHome_4 rfl 2 rfl rfl ?_
  refine a_ycallI C (c_X10_isHome l G cy L E hE hl9 u a0 a1 a2 ha0 _ _ h) ha0 rfl (by decide) kw_4_213 kw_4_214 kw_4_215 kw_1_1 kw_4_216 rfl rfl pd_X10_isHome ⟨(Nat.le_of_ble_eq_true rfl), (Nat.le_of_ble_eq_true rfl)⟩ dL_isHome_5 rfl (Nat.le_of_ble_eq_true rfl) ⟨(Nat.le_of_ble_eq_true rfl), (Nat.le_of_ble_eq_true rfl)⟩ rfl (fun X9 u5x h => ?_) (fun r5 u5 h => ?_)
  · rcases h with ⟨rfl, h⟩ | ⟨rfl, h⟩
    · refine a_catch C [] ⟨0, 17, 20, 19⟩ [⟨0, 17, 24, 13⟩] (htab.trans rfl) (fun z hz => absurd hz List.not_mem_nil) (by decide) (by decide) kw_4_147 (List.mem_of_getElem? (i := 1) rfl) (fun q9 => ?_)
      refine a_astore (lv' := [(0, .ref (L a0)), (1, .int a1), (2, .int a2), (3, .ref (L a3)), (4, .ref q9)]) C dL_isHome_20 (by decide) [1, 2, 3, 4, 0] rfl rfl ?_
      refine a_iconst (v := 1) C dL_isHome_22 (by decide) rfl ?_
      exact a_iret C dL_isHome_23 hr hlocks (Nat.le_of_ble_eq_true rfl) (Nat.le_of_ble_eq_true rfl) h
    · refine a_catch C [⟨0, 17, 20, 19⟩] ⟨0, 17, 24, 13⟩ [] (htab.trans rfl) (fun z hz => by rw [List.mem_singleton] at hz; subst hz; exact ⟨by decide, _, kw_4_147, List.mem_of_getElem? (i := 0) rfl⟩) (by decide) (by decide) kw_3_132 (List.mem_of_getElem? (i := 0) rfl) (fun q9 => ?_)
      refine a_astore (lv' := [(0, .ref (L a0)), (1, .int a1), (2, .int a2), (3, .ref (L a3)), (4, .ref q9)]) C dL_isHome_24 (by decide) [1, 2, 3, 4, 0] rfl rfl ?_
      refine a_iconst (v := 2) C dL_isHome_26 (by decide) rfl ?_
      exact a_iret C dL_isHome_27 hr hlocks (Nat.le_of_ble_eq_true rfl) (Nat.le_of_ble_eq_true rfl) h
  · refine a_if_eq (tgt := 15) C dL_isHome_8 (by decide) rfl (fun hc => ?_) (fun hc => ?_)
    · replace h := h.1 hc
      refine a_lconst (v := 0) C dL_isHome_15 (by decide) rfl ?_
      refine a_wid (k := 2) (n := 12) (Nat.le_of_ble_eq_true rfl) (Nat.le_of_ble_eq_true rfl) ?_
      refine a_sub (lv' := []) [] rfl ?_
      exact c_L_isHome_16 C hr hlocks htab hl9 hE ha0 ha3  u5 0 0 a3 ha3 h
    · replace h := h.2 hc
      refine a_lconst (v := 1) C dL_isHome_11 (by decide) rfl ?_
      refine a_goto (tgt := 16) C dL_isHome_12 (by decide) ?_
      refine a_wid (k := 2) (n := 12) (Nat.le_of_ble_eq_true rfl) (Nat.le_of_ble_eq_true rfl) ?_
      refine a_sub (lv' := []) [] rfl ?_
      exact c_L_isHome_16 C hr hlocks htab hl9 hE ha0 ha3  u5 1 0 a3 ha3 h

/-! CensusWalkLaw.duration(LCensusWalk;II[J)I -/
theorem pd_L_duration : (⟨"CensusWalkLaw", "duration", "(LCensusWalk;II[J)I"⟩ : MethodName).cls ≠ "java/lang/invoke/MethodHandle" ∧ (⟨"CensusWalkLaw", "duration", "(LCensusWalk;II[J)I"⟩ : MethodName).cls ≠ "java/lang/invoke/VarHandle" ∧ (parseMethodDescriptor (⟨"CensusWalkLaw", "duration", "(LCensusWalk;II[J)I"⟩ : MethodName).desc).map (fun d => d.parameters.length) = some 4 := by decide +kernel
def wp_L_duration (E : ms_En) (u : ms_St) (a0 : Nat) (a1 : Int32) (a2 : Int32) (a3 : Nat) (post : Int32 → ms_St → Prop) : Prop := wp_X10_duration E u a0 a1 a2 (fun r5 u5 => vp_in 0 (ms_N E a3) ∧ (post 0 (ms_sJ u5 a3 (Int32.toNatClampNeg 0) (Int32.toInt64 r5)))) (fun X9 u5x => (X9 = "java/lang/IndexOutOfBoundsException" ∧ post 1 u5x) ∨ (X9 = "java/lang/IllegalArgumentException" ∧ post 2 u5x))
set_option maxHeartbeats 4000000 in
set_option maxRecDepth 100000 in
theorem c_L_duration (l : Launch) (G : va_G) (cy : Nat → ClassId) (L : Nat → Nat) (E : ms_En) (hE : ms_WT E) (hl9 : l.stackTraces = false) (u : ms_St) (a0 : Nat) (a1 : Int32) (a2 : Int32) (a3 : Nat) (ha0 : ms_is E a0 10) (ha3 : ms_is E a3 14) (post : Int32 → ms_St → Prop) (h : wp_L_duration E u a0 a1 a2 a3 post) : ms_MetI l ⟨"CensusWalkLaw", "duration", "(LCensusWalk;II[J)I"⟩ (Cond.codeWith ⟨"CensusWalkLaw", "duration", "(LCensusWalk;II[J)I"⟩ method_10_code 5 (some .int) [(0, 10, 13, 19), (0, 10, 17, 13)] :: lw_g) ({ frames := 8, cells := 2, slots := 12, locals := 163 } : Room) G cy L E [.ref (L a0), .int a1, .int a2, .ref (L a3)] u post 2 12 := by
  refine ms_enterWI (lv := [(0, .ref (L a0)), (1, .int a1), (2, .int a2), (3, .ref (L a3))]) (by decide) (Nat.le_of_ble_eq_true rfl) rfl ?_
  intro p e s m args below meth c A C hr hlocks htab
  unfold wp_L_duration at h
  refine a_aload_n C dL_duration_0 rfl 3 rfl rfl ?_
  refine a_iconst (v := 0) C dL_duration_1 (by decide) rfl ?_
  refine a_aload_n C dL_duration_2 rfl 0 rfl rfl ?_
  refine a_iload_n C dL_duration_3 rfl 1 rfl rfl ?_
  refine a_iload_n C dL_duration_4 rfl 2 rfl rfl ?_
  refine a_ycallI C (c_X10_duration l G cy L E hE hl9 u a0 a1 a2 ha0 _ _ h) ha0 rfl (by decide) kw_4_222 kw_4_223 kw_4_224 kw_1_1 kw_4_225 rfl rfl pd_X10_duration ⟨(Nat.le_of_ble_eq_true rfl), (Nat.le_of_ble_eq_true rfl)⟩ dL_duration_5 rfl (Nat.le_of_ble_eq_true rfl) ⟨(Nat.le_of_ble_eq_true rfl), (Nat.le_of_ble_eq_true rfl)⟩ rfl (fun X9 u5x h => ?_) (fun r5 u5 h => ?_)
  · rcases h with ⟨rfl, h⟩ | ⟨rfl, h⟩
    · refine a_catch C [] ⟨0, 10, 13, 19⟩ [⟨0, 10, 17, 13⟩] (htab.trans rfl) (fun z hz => absurd hz List.not_mem_nil) (by decide) (by decide) kw_4_147 (List.mem_of_getElem? (i := 1) rfl) (fun q9 => ?_)
      refine a_astore (lv' := [(0, .ref (L a0)), (1, .int a1), (2, .int a2), (3, .ref (L a3)), (4, .ref q9)]) C dL_duration_13 (by decide) [1, 2, 3, 4, 0] rfl rfl ?_
      refine a_iconst (v := 1) C dL_duration_15 (by decide) rfl ?_
      exact a_iret C dL_duration_16 hr hlocks (Nat.le_of_ble_eq_true rfl) (Nat.le_of_ble_eq_true rfl) h
    · refine a_catch C [⟨0, 10, 13, 19⟩] ⟨0, 10, 17, 13⟩ [] (htab.trans rfl) (fun z hz => by rw [List.mem_singleton] at hz; subst hz; exact ⟨by decide, _, kw_4_147, List.mem_of_getElem? (i := 0) rfl⟩) (by decide) (by decide) kw_3_132 (List.mem_of_getElem? (i := 0) rfl) (fun q9 => ?_)
      refine a_astore (lv' := [(0, .ref (L a0)), (1, .int a1), (2, .int a2), (3, .ref (L a3)), (4, .ref q9)]) C dL_duration_17 (by decide) [1, 2, 3, 4, 0] rfl rfl ?_
      refine a_iconst (v := 2) C dL_duration_19 (by decide) rfl ?_
      exact a_iret C dL_duration_20 hr hlocks (Nat.le_of_ble_eq_true rfl) (Nat.le_of_ble_eq_true rfl) h
  · refine a_i2l C dL_duration_8 rfl ?_
    obtain ⟨q9, h⟩ := h
    refine a_last C dL_duration_9 ha3 rfl q9 rfl ?_
    refine a_goto (tgt := 21) C dL_duration_10 (by decide) ?_
    refine a_iconst (v := 0) C dL_duration_21 (by decide) rfl ?_
    exact a_iret C dL_duration_22 hr hlocks (Nat.le_of_ble_eq_true rfl) (Nat.le_of_ble_eq_true rfl) h

/-! CensusWalkLaw.planLength(LCensusWalk;I[J)I -/
theorem pd_L_planLength : (⟨"CensusWalkLaw", "planLength", "(LCensusWalk;I[J)I"⟩ : MethodName).cls ≠ "java/lang/invoke/MethodHandle" ∧ (⟨"CensusWalkLaw", "planLength", "(LCensusWalk;I[J)I"⟩ : MethodName).cls ≠ "java/lang/invoke/VarHandle" ∧ (parseMethodDescriptor (⟨"CensusWalkLaw", "planLength", "(LCensusWalk;I[J)I"⟩ : MethodName).desc).map (fun d => d.parameters.length) = some 3 := by decide +kernel
def wp_L_planLength (E : ms_En) (u : ms_St) (a0 : Nat) (a1 : Int32) (a2 : Nat) (post : Int32 → ms_St → Prop) : Prop := wp_X10_planLength E u a0 a1 (fun r4 u4 => vp_in 0 (ms_N E a2) ∧ (post 0 (ms_sJ u4 a2 (Int32.toNatClampNeg 0) (Int32.toInt64 r4)))) (fun X9 u4x => (X9 = "java/lang/IndexOutOfBoundsException" ∧ post 1 u4x))
set_option maxHeartbeats 4000000 in
set_option maxRecDepth 100000 in
theorem c_L_planLength (l : Launch) (G : va_G) (cy : Nat → ClassId) (L : Nat → Nat) (E : ms_En) (hE : ms_WT E) (hl9 : l.stackTraces = false) (u : ms_St) (a0 : Nat) (a1 : Int32) (a2 : Nat) (ha0 : ms_is E a0 10) (ha2 : ms_is E a2 14) (post : Int32 → ms_St → Prop) (h : wp_L_planLength E u a0 a1 a2 post) : ms_MetI l ⟨"CensusWalkLaw", "planLength", "(LCensusWalk;I[J)I"⟩ (Cond.codeWith ⟨"CensusWalkLaw", "planLength", "(LCensusWalk;I[J)I"⟩ method_11_code 4 (some .int) [(0, 9, 12, 19)] :: lw_g) ({ frames := 8, cells := 1, slots := 6, locals := 162 } : Room) G cy L E [.ref (L a0), .int a1, .ref (L a2)] u post 1 6 := by
  refine ms_enterWI (lv := [(0, .ref (L a0)), (1, .int a1), (2, .ref (L a2))]) (by decide) (Nat.le_of_ble_eq_true rfl) rfl ?_
  intro p e s m args below meth c A C hr hlocks htab
  unfold wp_L_planLength at h
  refine a_aload_n C dL_planLength_0 rfl 2 rfl rfl ?_
  refine a_iconst (v := 0) C dL_planLength_1 (by decide) rfl ?_
  refine a_aload_n C dL_planLength_2 rfl 0 rfl rfl ?_
  refine a_iload_n C dL_planLength_3 rfl 1 rfl rfl ?_
  refine a_ycallI C (c_X10_planLength l G cy L E hE hl9 u a0 a1 ha0 _ _ h) ha0 rfl (by decide) kw_4_231 kw_4_232 kw_4_233 kw_1_1 kw_4_234 rfl rfl pd_X10_planLength ⟨(Nat.le_of_ble_eq_true rfl), (Nat.le_of_ble_eq_true rfl)⟩ dL_planLength_4 rfl (Nat.le_of_ble_eq_true rfl) ⟨(Nat.le_of_ble_eq_true rfl), (Nat.le_of_ble_eq_true rfl)⟩ rfl (fun X9 u4x h => ?_) (fun r4 u4 h => ?_)
  · obtain ⟨rfl, h⟩ := h
    refine a_catch C [] ⟨0, 9, 12, 19⟩ [] (htab.trans rfl) (fun z hz => absurd hz List.not_mem_nil) (by decide) (by decide) kw_4_147 (List.mem_of_getElem? (i := 1) rfl) (fun q9 => ?_)
    refine a_astore_n (lv' := [(0, .ref (L a0)), (1, .int a1), (2, .ref (L a2)), (3, .ref q9)]) C dL_planLength_12 rfl (by decide) [1, 2, 3, 0] rfl rfl ?_
    refine a_iconst (v := 1) C dL_planLength_13 (by decide) rfl ?_
    exact a_iret C dL_planLength_14 hr hlocks (Nat.le_of_ble_eq_true rfl) (Nat.le_of_ble_eq_true rfl) h
  · refine a_i2l C dL_planLength_7 rfl ?_
    obtain ⟨q8, h⟩ := h
    refine a_last C dL_planLength_8 ha2 rfl q8 rfl ?_
    refine a_goto (tgt := 15) C dL_planLength_9 (by decide) ?_
    refine a_iconst (v := 0) C dL_planLength_15 (by decide) rfl ?_
    exact a_iret C dL_planLength_16 hr hlocks (Nat.le_of_ble_eq_true rfl) (Nat.le_of_ble_eq_true rfl) h

/-! CensusWalkLaw.planned(LCensusWalk;II[J)I -/
theorem pd_L_planned : (⟨"CensusWalkLaw", "planned", "(LCensusWalk;II[J)I"⟩ : MethodName).cls ≠ "java/lang/invoke/MethodHandle" ∧ (⟨"CensusWalkLaw", "planned", "(LCensusWalk;II[J)I"⟩ : MethodName).cls ≠ "java/lang/invoke/VarHandle" ∧ (parseMethodDescriptor (⟨"CensusWalkLaw", "planned", "(LCensusWalk;II[J)I"⟩ : MethodName).desc).map (fun d => d.parameters.length) = some 4 := by decide +kernel
def wp_L_planned (E : ms_En) (u : ms_St) (a0 : Nat) (a1 : Int32) (a2 : Int32) (a3 : Nat) (post : Int32 → ms_St → Prop) : Prop := wp_X10_planned E u a0 a1 a2 (fun r5 u5 => vp_in 0 (ms_N E a3) ∧ (post 0 (ms_sJ u5 a3 (Int32.toNatClampNeg 0) (Int32.toInt64 r5)))) (fun X9 u5x => (X9 = "java/lang/IndexOutOfBoundsException" ∧ post 1 u5x))
set_option maxHeartbeats 4000000 in
set_option maxRecDepth 100000 in
theorem c_L_planned (l : Launch) (G : va_G) (cy : Nat → ClassId) (L : Nat → Nat) (E : ms_En) (hE : ms_WT E) (hl9 : l.stackTraces = false) (u : ms_St) (a0 : Nat) (a1 : Int32) (a2 : Int32) (a3 : Nat) (ha0 : ms_is E a0 10) (ha3 : ms_is E a3 14) (post : Int32 → ms_St → Prop) (h : wp_L_planned E u a0 a1 a2 a3 post) : ms_MetI l ⟨"CensusWalkLaw", "planned", "(LCensusWalk;II[J)I"⟩ (Cond.codeWith ⟨"CensusWalkLaw", "planned", "(LCensusWalk;II[J)I"⟩ method_12_code 5 (some .int) [(0, 10, 13, 19)] :: lw_g) ({ frames := 9, cells := 2, slots := 12, locals := 185 } : Room) G cy L E [.ref (L a0), .int a1, .int a2, .ref (L a3)] u post 2 12 := by
  refine ms_enterWI (lv := [(0, .ref (L a0)), (1, .int a1), (2, .int a2), (3, .ref (L a3))]) (by decide) (Nat.le_of_ble_eq_true rfl) rfl ?_
  intro p e s m args below meth c A C hr hlocks htab
  unfold wp_L_planned at h
  refine a_aload_n C dL_planned_0 rfl 3 rfl rfl ?_
  refine a_iconst (v := 0) C dL_planned_1 (by decide) rfl ?_
  refine a_aload_n C dL_planned_2 rfl 0 rfl rfl ?_
  refine a_iload_n C dL_planned_3 rfl 1 rfl rfl ?_
  refine a_iload_n C dL_planned_4 rfl 2 rfl rfl ?_
  refine a_ycallI C (c_X10_planned l G cy L E hE hl9 u a0 a1 a2 ha0 _ _ h) ha0 rfl (by decide) kw_5_4 kw_5_5 kw_5_6 kw_1_1 kw_5_7 rfl rfl pd_X10_planned ⟨(Nat.le_of_ble_eq_true rfl), (Nat.le_of_ble_eq_true rfl)⟩ dL_planned_5 rfl (Nat.le_of_ble_eq_true rfl) ⟨(Nat.le_of_ble_eq_true rfl), (Nat.le_of_ble_eq_true rfl)⟩ rfl (fun X9 u5x h => ?_) (fun r5 u5 h => ?_)
  · obtain ⟨rfl, h⟩ := h
    refine a_catch C [] ⟨0, 10, 13, 19⟩ [] (htab.trans rfl) (fun z hz => absurd hz List.not_mem_nil) (by decide) (by decide) kw_4_147 (List.mem_of_getElem? (i := 1) rfl) (fun q9 => ?_)
    refine a_astore (lv' := [(0, .ref (L a0)), (1, .int a1), (2, .int a2), (3, .ref (L a3)), (4, .ref q9)]) C dL_planned_13 (by decide) [1, 2, 3, 4, 0] rfl rfl ?_
    refine a_iconst (v := 1) C dL_planned_15 (by decide) rfl ?_
    exact a_iret C dL_planned_16 hr hlocks (Nat.le_of_ble_eq_true rfl) (Nat.le_of_ble_eq_true rfl) h
  · refine a_i2l C dL_planned_8 rfl ?_
    obtain ⟨q9, h⟩ := h
    refine a_last C dL_planned_9 ha3 rfl q9 rfl ?_
    refine a_goto (tgt := 17) C dL_planned_10 (by decide) ?_
    refine a_iconst (v := 0) C dL_planned_17 (by decide) rfl ?_
    exact a_iret C dL_planned_18 hr hlocks (Nat.le_of_ble_eq_true rfl) (Nat.le_of_ble_eq_true rfl) h

/-! CensusWalkLaw.result(LCensusWalk;II[J)I -/
theorem pd_L_result : (⟨"CensusWalkLaw", "result", "(LCensusWalk;II[J)I"⟩ : MethodName).cls ≠ "java/lang/invoke/MethodHandle" ∧ (⟨"CensusWalkLaw", "result", "(LCensusWalk;II[J)I"⟩ : MethodName).cls ≠ "java/lang/invoke/VarHandle" ∧ (parseMethodDescriptor (⟨"CensusWalkLaw", "result", "(LCensusWalk;II[J)I"⟩ : MethodName).desc).map (fun d => d.parameters.length) = some 4 := by decide +kernel
def wp_L_result (E : ms_En) (u : ms_St) (a0 : Nat) (a1 : Int32) (a2 : Int32) (a3 : Nat) (post : Int32 → ms_St → Prop) : Prop := wp_X10_result E u a0 a1 a2 (fun r5 u5 => vp_in 0 (ms_N E a3) ∧ (post 0 (ms_sJ u5 a3 (Int32.toNatClampNeg 0) (Int32.toInt64 r5)))) (fun X9 u5x => (X9 = "java/lang/IndexOutOfBoundsException" ∧ post 1 u5x))
set_option maxHeartbeats 4000000 in
set_option maxRecDepth 100000 in
theorem c_L_result (l : Launch) (G : va_G) (cy : Nat → ClassId) (L : Nat → Nat) (E : ms_En) (hE : ms_WT E) (hl9 : l.stackTraces = false) (u : ms_St) (a0 : Nat) (a1 : Int32) (a2 : Int32) (a3 : Nat) (ha0 : ms_is E a0 10) (ha3 : ms_is E a3 14) (post : Int32 → ms_St → Prop) (h : wp_L_result E u a0 a1 a2 a3 post) : ms_MetI l ⟨"CensusWalkLaw", "result", "(LCensusWalk;II[J)I"⟩ (Cond.codeWith ⟨"CensusWalkLaw", "result", "(LCensusWalk;II[J)I"⟩ method_13_code 5 (some .int) [(0, 10, 13, 19)] :: lw_g) ({ frames := 9, cells := 2, slots := 12, locals := 187 } : Room) G cy L E [.ref (L a0), .int a1, .int a2, .ref (L a3)] u post 2 12 := by
  refine ms_enterWI (lv := [(0, .ref (L a0)), (1, .int a1), (2, .int a2), (3, .ref (L a3))]) (by decide) (Nat.le_of_ble_eq_true rfl) rfl ?_
  intro p e s m args below meth c A C hr hlocks htab
  unfold wp_L_result at h
  refine a_aload_n C dL_result_0 rfl 3 rfl rfl ?_
  refine a_iconst (v := 0) C dL_result_1 (by decide) rfl ?_
  refine a_aload_n C dL_result_2 rfl 0 rfl rfl ?_
  refine a_iload_n C dL_result_3 rfl 1 rfl rfl ?_
  refine a_iload_n C dL_result_4 rfl 2 rfl rfl ?_
  refine a_ycallI C (c_X10_result l G cy L E hE hl9 u a0 a1 a2 ha0 _ _ h) ha0 rfl (by decide) kw_5_16 kw_5_17 kw_5_18 kw_1_1 kw_5_19 rfl rfl pd_X10_result ⟨(Nat.le_of_ble_eq_true rfl), (Nat.le_of_ble_eq_true rfl)⟩ dL_result_5 rfl (Nat.le_of_ble_eq_true rfl) ⟨(Nat.le_of_ble_eq_true rfl), (Nat.le_of_ble_eq_true rfl)⟩ rfl (fun X9 u5x h => ?_) (fun r5 u5 h => ?_)
  · obtain ⟨rfl, h⟩ := h
    refine a_catch C [] ⟨0, 10, 13, 19⟩ [] (htab.trans rfl) (fun z hz => absurd hz List.not_mem_nil) (by decide) (by decide) kw_4_147 (List.mem_of_getElem? (i := 1) rfl) (fun q9 => ?_)
    refine a_astore (lv' := [(0, .ref (L a0)), (1, .int a1), (2, .int a2), (3, .ref (L a3)), (4, .ref q9)]) C dL_result_13 (by decide) [1, 2, 3, 4, 0] rfl rfl ?_
    refine a_iconst (v := 1) C dL_result_15 (by decide) rfl ?_
    exact a_iret C dL_result_16 hr hlocks (Nat.le_of_ble_eq_true rfl) (Nat.le_of_ble_eq_true rfl) h
  · refine a_i2l C dL_result_8 rfl ?_
    obtain ⟨q9, h⟩ := h
    refine a_last C dL_result_9 ha3 rfl q9 rfl ?_
    refine a_goto (tgt := 17) C dL_result_10 (by decide) ?_
    refine a_iconst (v := 0) C dL_result_17 (by decide) rfl ?_
    exact a_iret C dL_result_18 hr hlocks (Nat.le_of_ble_eq_true rfl) (Nat.le_of_ble_eq_true rfl) h

/-! CensusWalkLaw.arrival(LCensusWalk;II[J)I -/
theorem pd_L_arrival : (⟨"CensusWalkLaw", "arrival", "(LCensusWalk;II[J)I"⟩ : MethodName).cls ≠ "java/lang/invoke/MethodHandle" ∧ (⟨"CensusWalkLaw", "arrival", "(LCensusWalk;II[J)I"⟩ : MethodName).cls ≠ "java/lang/invoke/VarHandle" ∧ (parseMethodDescriptor (⟨"CensusWalkLaw", "arrival", "(LCensusWalk;II[J)I"⟩ : MethodName).desc).map (fun d => d.parameters.length) = some 4 := by decide +kernel
def wp_L_arrival (E : ms_En) (u : ms_St) (a0 : Nat) (a1 : Int32) (a2 : Int32) (a3 : Nat) (post : Int32 → ms_St → Prop) : Prop := wp_X10_arrival E u a0 a1 a2 (fun r5 u5 => vp_in 0 (ms_N E a3) ∧ (post 0 (ms_sJ u5 a3 (Int32.toNatClampNeg 0) (Int32.toInt64 r5)))) (fun X9 u5x => (X9 = "java/lang/IndexOutOfBoundsException" ∧ post 1 u5x))
set_option maxHeartbeats 4000000 in
set_option maxRecDepth 100000 in
theorem c_L_arrival (l : Launch) (G : va_G) (cy : Nat → ClassId) (L : Nat → Nat) (E : ms_En) (hE : ms_WT E) (hl9 : l.stackTraces = false) (u : ms_St) (a0 : Nat) (a1 : Int32) (a2 : Int32) (a3 : Nat) (ha0 : ms_is E a0 10) (ha3 : ms_is E a3 14) (post : Int32 → ms_St → Prop) (h : wp_L_arrival E u a0 a1 a2 a3 post) : ms_MetI l ⟨"CensusWalkLaw", "arrival", "(LCensusWalk;II[J)I"⟩ (Cond.codeWith ⟨"CensusWalkLaw", "arrival", "(LCensusWalk;II[J)I"⟩ method_14_code 5 (some .int) [(0, 10, 13, 19)] :: lw_g) ({ frames := 9, cells := 2, slots := 12, locals := 187 } : Room) G cy L E [.ref (L a0), .int a1, .int a2, .ref (L a3)] u post 2 12 := by
  refine ms_enterWI (lv := [(0, .ref (L a0)), (1, .int a1), (2, .int a2), (3, .ref (L a3))]) (by decide) (Nat.le_of_ble_eq_true rfl) rfl ?_
  intro p e s m args below meth c A C hr hlocks htab
  unfold wp_L_arrival at h
  refine a_aload_n C dL_arrival_0 rfl 3 rfl rfl ?_
  refine a_iconst (v := 0) C dL_arrival_1 (by decide) rfl ?_
  refine a_aload_n C dL_arrival_2 rfl 0 rfl rfl ?_
  refine a_iload_n C dL_arrival_3 rfl 1 rfl rfl ?_
  refine a_iload_n C dL_arrival_4 rfl 2 rfl rfl ?_
  refine a_ycallI C (c_X10_arrival l G cy L E hE hl9 u a0 a1 a2 ha0 _ _ h) ha0 rfl (by decide) kw_5_23 kw_5_24 kw_5_25 kw_1_1 kw_5_26 rfl rfl pd_X10_arrival ⟨(Nat.le_of_ble_eq_true rfl), (Nat.le_of_ble_eq_true rfl)⟩ dL_arrival_5 rfl (Nat.le_of_ble_eq_true rfl) ⟨(Nat.le_of_ble_eq_true rfl), (Nat.le_of_ble_eq_true rfl)⟩ rfl (fun X9 u5x h => ?_) (fun r5 u5 h => ?_)
  · obtain ⟨rfl, h⟩ := h
    refine a_catch C [] ⟨0, 10, 13, 19⟩ [] (htab.trans rfl) (fun z hz => absurd hz List.not_mem_nil) (by decide) (by decide) kw_4_147 (List.mem_of_getElem? (i := 1) rfl) (fun q9 => ?_)
    refine a_astore (lv' := [(0, .ref (L a0)), (1, .int a1), (2, .int a2), (3, .ref (L a3)), (4, .ref q9)]) C dL_arrival_13 (by decide) [1, 2, 3, 4, 0] rfl rfl ?_
    refine a_iconst (v := 1) C dL_arrival_15 (by decide) rfl ?_
    exact a_iret C dL_arrival_16 hr hlocks (Nat.le_of_ble_eq_true rfl) (Nat.le_of_ble_eq_true rfl) h
  · refine a_i2l C dL_arrival_8 rfl ?_
    obtain ⟨q9, h⟩ := h
    refine a_last C dL_arrival_9 ha3 rfl q9 rfl ?_
    refine a_goto (tgt := 17) C dL_arrival_10 (by decide) ?_
    refine a_iconst (v := 0) C dL_arrival_17 (by decide) rfl ?_
    exact a_iret C dL_arrival_18 hr hlocks (Nat.le_of_ble_eq_true rfl) (Nat.le_of_ble_eq_true rfl) h

/-! CensusWalkLaw.finish(LCensusWalk;I[J)I -/
theorem pd_L_finish : (⟨"CensusWalkLaw", "finish", "(LCensusWalk;I[J)I"⟩ : MethodName).cls ≠ "java/lang/invoke/MethodHandle" ∧ (⟨"CensusWalkLaw", "finish", "(LCensusWalk;I[J)I"⟩ : MethodName).cls ≠ "java/lang/invoke/VarHandle" ∧ (parseMethodDescriptor (⟨"CensusWalkLaw", "finish", "(LCensusWalk;I[J)I"⟩ : MethodName).desc).map (fun d => d.parameters.length) = some 3 := by decide +kernel
def wp_L_finish (E : ms_En) (u : ms_St) (a0 : Nat) (a1 : Int32) (a2 : Nat) (post : Int32 → ms_St → Prop) : Prop := wp_X10_finish E u a0 a1 (fun r4 u4 => vp_in 0 (ms_N E a2) ∧ (post 0 (ms_sJ u4 a2 (Int32.toNatClampNeg 0) (Int32.toInt64 r4)))) (fun X9 u4x => (X9 = "java/lang/IndexOutOfBoundsException" ∧ post 1 u4x))
set_option maxHeartbeats 4000000 in
set_option maxRecDepth 100000 in
theorem c_L_finish (l : Launch) (G : va_G) (cy : Nat → ClassId) (L : Nat → Nat) (E : ms_En) (hE : ms_WT E) (hl9 : l.stackTraces = false) (u : ms_St) (a0 : Nat) (a1 : Int32) (a2 : Nat) (ha0 : ms_is E a0 10) (ha2 : ms_is E a2 14) (post : Int32 → ms_St → Prop) (h : wp_L_finish E u a0 a1 a2 post) : ms_MetI l ⟨"CensusWalkLaw", "finish", "(LCensusWalk;I[J)I"⟩ (Cond.codeWith ⟨"CensusWalkLaw", "finish", "(LCensusWalk;I[J)I"⟩ method_15_code 4 (some .int) [(0, 9, 12, 19)] :: lw_g) ({ frames := 8, cells := 1, slots := 6, locals := 186 } : Room) G cy L E [.ref (L a0), .int a1, .ref (L a2)] u post 1 6 := by
  refine ms_enterWI (lv := [(0, .ref (L a0)), (1, .int a1), (2, .ref (L a2))]) (by decide) (Nat.le_of_ble_eq_true rfl) rfl ?_
  intro p e s m args below meth c A C hr hlocks htab
  unfold wp_L_finish at h
  refine a_aload_n C dL_finish_0 rfl 2 rfl rfl ?_
  refine a_iconst (v := 0) C dL_finish_1 (by decide) rfl ?_
  refine a_aload_n C dL_finish_2 rfl 0 rfl rfl ?_
  refine a_iload_n C dL_finish_3 rfl 1 rfl rfl ?_
  refine a_ycallI C (c_X10_finish l G cy L E hE hl9 u a0 a1 ha0 _ _ h) ha0 rfl (by decide) kw_5_30 kw_5_31 kw_5_32 kw_1_1 kw_5_33 rfl rfl pd_X10_finish ⟨(Nat.le_of_ble_eq_true rfl), (Nat.le_of_ble_eq_true rfl)⟩ dL_finish_4 rfl (Nat.le_of_ble_eq_true rfl) ⟨(Nat.le_of_ble_eq_true rfl), (Nat.le_of_ble_eq_true rfl)⟩ rfl (fun X9 u4x h => ?_) (fun r4 u4 h => ?_)
  · obtain ⟨rfl, h⟩ := h
    refine a_catch C [] ⟨0, 9, 12, 19⟩ [] (htab.trans rfl) (fun z hz => absurd hz List.not_mem_nil) (by decide) (by decide) kw_4_147 (List.mem_of_getElem? (i := 1) rfl) (fun q9 => ?_)
    refine a_astore_n (lv' := [(0, .ref (L a0)), (1, .int a1), (2, .ref (L a2)), (3, .ref q9)]) C dL_finish_12 rfl (by decide) [1, 2, 3, 0] rfl rfl ?_
    refine a_iconst (v := 1) C dL_finish_13 (by decide) rfl ?_
    exact a_iret C dL_finish_14 hr hlocks (Nat.le_of_ble_eq_true rfl) (Nat.le_of_ble_eq_true rfl) h
  · refine a_i2l C dL_finish_7 rfl ?_
    obtain ⟨q8, h⟩ := h
    refine a_last C dL_finish_8 ha2 rfl q8 rfl ?_
    refine a_goto (tgt := 15) C dL_finish_9 (by decide) ?_
    refine a_iconst (v := 0) C dL_finish_15 (by decide) rfl ?_
    exact a_iret C dL_finish_16 hr hlocks (Nat.le_of_ble_eq_true rfl) (Nat.le_of_ble_eq_true rfl) h

/-! CensusWalkLaw.calls(LCensusWalk;I[J)I -/
theorem pd_L_calls : (⟨"CensusWalkLaw", "calls", "(LCensusWalk;I[J)I"⟩ : MethodName).cls ≠ "java/lang/invoke/MethodHandle" ∧ (⟨"CensusWalkLaw", "calls", "(LCensusWalk;I[J)I"⟩ : MethodName).cls ≠ "java/lang/invoke/VarHandle" ∧ (parseMethodDescriptor (⟨"CensusWalkLaw", "calls", "(LCensusWalk;I[J)I"⟩ : MethodName).desc).map (fun d => d.parameters.length) = some 3 := by decide +kernel
def wp_L_calls (E : ms_En) (u : ms_St) (a0 : Nat) (a1 : Int32) (a2 : Nat) (post : Int32 → ms_St → Prop) : Prop := wp_X10_calls E u a0 a1 (fun r4 u4 => vp_in 0 (ms_N E a2) ∧ (post 0 (ms_sJ u4 a2 (Int32.toNatClampNeg 0) (Int32.toInt64 r4)))) (fun X9 u4x => (X9 = "java/lang/IndexOutOfBoundsException" ∧ post 1 u4x))
set_option maxHeartbeats 4000000 in
set_option maxRecDepth 100000 in
theorem c_L_calls (l : Launch) (G : va_G) (cy : Nat → ClassId) (L : Nat → Nat) (E : ms_En) (hE : ms_WT E) (hl9 : l.stackTraces = false) (u : ms_St) (a0 : Nat) (a1 : Int32) (a2 : Nat) (ha0 : ms_is E a0 10) (ha2 : ms_is E a2 14) (post : Int32 → ms_St → Prop) (h : wp_L_calls E u a0 a1 a2 post) : ms_MetI l ⟨"CensusWalkLaw", "calls", "(LCensusWalk;I[J)I"⟩ (Cond.codeWith ⟨"CensusWalkLaw", "calls", "(LCensusWalk;I[J)I"⟩ method_16_code 4 (some .int) [(0, 9, 12, 19)] :: lw_g) ({ frames := 8, cells := 1, slots := 6, locals := 186 } : Room) G cy L E [.ref (L a0), .int a1, .ref (L a2)] u post 1 6 := by
  refine ms_enterWI (lv := [(0, .ref (L a0)), (1, .int a1), (2, .ref (L a2))]) (by decide) (Nat.le_of_ble_eq_true rfl) rfl ?_
  intro p e s m args below meth c A C hr hlocks htab
  unfold wp_L_calls at h
  refine a_aload_n C dL_calls_0 rfl 2 rfl rfl ?_
  refine a_iconst (v := 0) C dL_calls_1 (by decide) rfl ?_
  refine a_aload_n C dL_calls_2 rfl 0 rfl rfl ?_
  refine a_iload_n C dL_calls_3 rfl 1 rfl rfl ?_
  refine a_ycallI C (c_X10_calls l G cy L E hE hl9 u a0 a1 ha0 _ _ h) ha0 rfl (by decide) kw_5_37 kw_5_38 kw_5_39 kw_1_1 kw_5_40 rfl rfl pd_X10_calls ⟨(Nat.le_of_ble_eq_true rfl), (Nat.le_of_ble_eq_true rfl)⟩ dL_calls_4 rfl (Nat.le_of_ble_eq_true rfl) ⟨(Nat.le_of_ble_eq_true rfl), (Nat.le_of_ble_eq_true rfl)⟩ rfl (fun X9 u4x h => ?_) (fun r4 u4 h => ?_)
  · obtain ⟨rfl, h⟩ := h
    refine a_catch C [] ⟨0, 9, 12, 19⟩ [] (htab.trans rfl) (fun z hz => absurd hz List.not_mem_nil) (by decide) (by decide) kw_4_147 (List.mem_of_getElem? (i := 1) rfl) (fun q9 => ?_)
    refine a_astore_n (lv' := [(0, .ref (L a0)), (1, .int a1), (2, .ref (L a2)), (3, .ref q9)]) C dL_calls_12 rfl (by decide) [1, 2, 3, 0] rfl rfl ?_
    refine a_iconst (v := 1) C dL_calls_13 (by decide) rfl ?_
    exact a_iret C dL_calls_14 hr hlocks (Nat.le_of_ble_eq_true rfl) (Nat.le_of_ble_eq_true rfl) h
  · refine a_i2l C dL_calls_7 rfl ?_
    obtain ⟨q8, h⟩ := h
    refine a_last C dL_calls_8 ha2 rfl q8 rfl ?_
    refine a_goto (tgt := 15) C dL_calls_9 (by decide) ?_
    refine a_iconst (v := 0) C dL_calls_15 (by decide) rfl ?_
    exact a_iret C dL_calls_16 hr hlocks (Nat.le_of_ble_eq_true rfl) (Nat.le_of_ble_eq_true rfl) h

/-! CensusWalkLaw.soonest(LCensusWalk;II[J)I -/
theorem pd_L_soonest : (⟨"CensusWalkLaw", "soonest", "(LCensusWalk;II[J)I"⟩ : MethodName).cls ≠ "java/lang/invoke/MethodHandle" ∧ (⟨"CensusWalkLaw", "soonest", "(LCensusWalk;II[J)I"⟩ : MethodName).cls ≠ "java/lang/invoke/VarHandle" ∧ (parseMethodDescriptor (⟨"CensusWalkLaw", "soonest", "(LCensusWalk;II[J)I"⟩ : MethodName).desc).map (fun d => d.parameters.length) = some 4 := by decide +kernel
def wp_L_soonest (E : ms_En) (u : ms_St) (a0 : Nat) (a1 : Int32) (a2 : Int32) (a3 : Nat) (post : Int32 → ms_St → Prop) : Prop := wp_X10_soonest E u a0 a1 a2 (fun r5 u5 => vp_in 0 (ms_N E a3) ∧ (post 0 (ms_sJ u5 a3 (Int32.toNatClampNeg 0) (Int32.toInt64 r5)))) (fun X9 u5x => (X9 = "java/lang/IndexOutOfBoundsException" ∧ post 1 u5x) ∨ (X9 = "java/lang/IllegalArgumentException" ∧ post 2 u5x))
set_option maxHeartbeats 4000000 in
set_option maxRecDepth 100000 in
theorem c_L_soonest (l : Launch) (G : va_G) (cy : Nat → ClassId) (L : Nat → Nat) (E : ms_En) (hE : ms_WT E) (hl9 : l.stackTraces = false) (u : ms_St) (a0 : Nat) (a1 : Int32) (a2 : Int32) (a3 : Nat) (ha0 : ms_is E a0 10) (ha3 : ms_is E a3 14) (post : Int32 → ms_St → Prop) (h : wp_L_soonest E u a0 a1 a2 a3 post) : ms_MetI l ⟨"CensusWalkLaw", "soonest", "(LCensusWalk;II[J)I"⟩ (Cond.codeWith ⟨"CensusWalkLaw", "soonest", "(LCensusWalk;II[J)I"⟩ method_17_code 5 (some .int) [(0, 10, 13, 19), (0, 10, 17, 13)] :: lw_g) ({ frames := 8, cells := 2, slots := 12, locals := 168 } : Room) G cy L E [.ref (L a0), .int a1, .int a2, .ref (L a3)] u post 2 12 := by
  refine ms_enterWI (lv := [(0, .ref (L a0)), (1, .int a1), (2, .int a2), (3, .ref (L a3))]) (by decide) (Nat.le_of_ble_eq_true rfl) rfl ?_
  intro p e s m args below meth c A C hr hlocks htab
  unfold wp_L_soonest at h
  refine a_aload_n C dL_soonest_0 rfl 3 rfl rfl ?_
  refine a_iconst (v := 0) C dL_soonest_1 (by decide) rfl ?_
  refine a_aload_n C dL_soonest_2 rfl 0 rfl rfl ?_
  refine a_iload_n C dL_soonest_3 rfl 1 rfl rfl ?_
  refine a_iload_n C dL_soonest_4 rfl 2 rfl rfl ?_
  refine a_ycallI C (c_X10_soonest l G cy L E hE hl9 u a0 a1 a2 ha0 _ _ h) ha0 rfl (by decide) kw_5_44 kw_5_45 kw_5_46 kw_1_1 kw_5_47 rfl rfl pd_X10_soonest ⟨(Nat.le_of_ble_eq_true rfl), (Nat.le_of_ble_eq_true rfl)⟩ dL_soonest_5 rfl (Nat.le_of_ble_eq_true rfl) ⟨(Nat.le_of_ble_eq_true rfl), (Nat.le_of_ble_eq_true rfl)⟩ rfl (fun X9 u5x h => ?_) (fun r5 u5 h => ?_)
  · rcases h with ⟨rfl, h⟩ | ⟨rfl, h⟩
    · refine a_catch C [] ⟨0, 10, 13, 19⟩ [⟨0, 10, 17, 13⟩] (htab.trans rfl) (fun z hz => absurd hz List.not_mem_nil) (by decide) (by decide) kw_4_147 (List.mem_of_getElem? (i := 1) rfl) (fun q9 => ?_)
      refine a_astore (lv' := [(0, .ref (L a0)), (1, .int a1), (2, .int a2), (3, .ref (L a3)), (4, .ref q9)]) C dL_soonest_13 (by decide) [1, 2, 3, 4, 0] rfl rfl ?_
      refine a_iconst (v := 1) C dL_soonest_15 (by decide) rfl ?_
      exact a_iret C dL_soonest_16 hr hlocks (Nat.le_of_ble_eq_true rfl) (Nat.le_of_ble_eq_true rfl) h
    · refine a_catch C [⟨0, 10, 13, 19⟩] ⟨0, 10, 17, 13⟩ [] (htab.trans rfl) (fun z hz => by rw [List.mem_singleton] at hz; subst hz; exact ⟨by decide, _, kw_4_147, List.mem_of_getElem? (i := 0) rfl⟩) (by decide) (by decide) kw_3_132 (List.mem_of_getElem? (i := 0) rfl) (fun q9 => ?_)
      refine a_astore (lv' := [(0, .ref (L a0)), (1, .int a1), (2, .int a2), (3, .ref (L a3)), (4, .ref q9)]) C dL_soonest_17 (by decide) [1, 2, 3, 4, 0] rfl rfl ?_
      refine a_iconst (v := 2) C dL_soonest_19 (by decide) rfl ?_
      exact a_iret C dL_soonest_20 hr hlocks (Nat.le_of_ble_eq_true rfl) (Nat.le_of_ble_eq_true rfl) h
  · refine a_i2l C dL_soonest_8 rfl ?_
    obtain ⟨q9, h⟩ := h
    refine a_last C dL_soonest_9 ha3 rfl q9 rfl ?_
    refine a_goto (tgt := 21) C dL_soonest_10 (by decide) ?_
    refine a_iconst (v := 0) C dL_soonest_21 (by decide) rfl ?_
    exact a_iret C dL_soonest_22 hr hlocks (Nat.le_of_ble_eq_true rfl) (Nat.le_of_ble_eq_true rfl) h

/-! CensusWalkLaw.soonestOrder(LCensusWalk;III[J)I -/
theorem pd_L_soonestOrder : (⟨"CensusWalkLaw", "soonestOrder", "(LCensusWalk;III[J)I"⟩ : MethodName).cls ≠ "java/lang/invoke/MethodHandle" ∧ (⟨"CensusWalkLaw", "soonestOrder", "(LCensusWalk;III[J)I"⟩ : MethodName).cls ≠ "java/lang/invoke/VarHandle" ∧ (parseMethodDescriptor (⟨"CensusWalkLaw", "soonestOrder", "(LCensusWalk;III[J)I"⟩ : MethodName).desc).map (fun d => d.parameters.length) = some 5 := by decide +kernel
def wp_L_soonestOrder (E : ms_En) (u : ms_St) (a0 : Nat) (a1 : Int32) (a2 : Int32) (a3 : Int32) (a4 : Nat) (post : Int32 → ms_St → Prop) : Prop := wp_X10_soonestOrder E u a0 a1 a2 a3 (fun r7 u7 => vp_in 0 (ms_N E a4) ∧ (post 0 (ms_sJ u7 a4 (Int32.toNatClampNeg 0) (Int32.toInt64 r7)))) (fun X9 u7x => (X9 = "java/lang/IndexOutOfBoundsException" ∧ post 1 u7x) ∨ (X9 = "java/lang/IllegalArgumentException" ∧ post 2 u7x))
set_option maxHeartbeats 4000000 in
set_option maxRecDepth 100000 in
theorem c_L_soonestOrder (l : Launch) (G : va_G) (cy : Nat → ClassId) (L : Nat → Nat) (E : ms_En) (hE : ms_WT E) (hl9 : l.stackTraces = false) (u : ms_St) (a0 : Nat) (a1 : Int32) (a2 : Int32) (a3 : Int32) (a4 : Nat) (ha0 : ms_is E a0 10) (ha4 : ms_is E a4 14) (post : Int32 → ms_St → Prop) (h : wp_L_soonestOrder E u a0 a1 a2 a3 a4 post) : ms_MetI l ⟨"CensusWalkLaw", "soonestOrder", "(LCensusWalk;III[J)I"⟩ (Cond.codeWith ⟨"CensusWalkLaw", "soonestOrder", "(LCensusWalk;III[J)I"⟩ method_18_code 6 (some .int) [(0, 12, 15, 19), (0, 12, 19, 13)] :: lw_g) ({ frames := 8, cells := 3, slots := 18, locals := 170 } : Room) G cy L E [.ref (L a0), .int a1, .int a2, .int a3, .ref (L a4)] u post 3 18 := by
  refine ms_enterWI (lv := [(0, .ref (L a0)), (1, .int a1), (2, .int a2), (3, .int a3), (4, .ref (L a4))]) (by decide) (Nat.le_of_ble_eq_true rfl) rfl ?_
  intro p e s m args below meth c A C hr hlocks htab
  unfold wp_L_soonestOrder at h
  refine a_aload C dL_soonestOrder_0 4 rfl rfl ?_
  refine a_iconst (v := 0) C dL_soonestOrder_2 (by decide) rfl ?_
  refine a_aload_n C dL_soonestOrder_3 rfl 0 rfl rfl ?_
  refine a_iload_n C dL_soonestOrder_4 rfl 1 rfl rfl ?_
  refine a_iload_n C dL_soonestOrder_5 rfl 2 rfl rfl ?_
  refine a_iload_n C dL_soonestOrder_6 rfl 3 rfl rfl ?_
  refine a_ycallI C (c_X10_soonestOrder l G cy L E hE hl9 u a0 a1 a2 a3 ha0 _ _ h) ha0 rfl (by decide) kw_5_100 kw_5_101 kw_5_102 kw_1_1 kw_5_103 rfl rfl pd_X10_soonestOrder ⟨(Nat.le_of_ble_eq_true rfl), (Nat.le_of_ble_eq_true rfl)⟩ dL_soonestOrder_7 rfl (Nat.le_of_ble_eq_true rfl) ⟨(Nat.le_of_ble_eq_true rfl), (Nat.le_of_ble_eq_true rfl)⟩ rfl (fun X9 u7x h => ?_) (fun r7 u7 h => ?_)
  · rcases h with ⟨rfl, h⟩ | ⟨rfl, h⟩
    · refine a_catch C [] ⟨0, 12, 15, 19⟩ [⟨0, 12, 19, 13⟩] (htab.trans rfl) (fun z hz => absurd hz List.not_mem_nil) (by decide) (by decide) kw_4_147 (List.mem_of_getElem? (i := 1) rfl) (fun q9 => ?_)
      refine a_astore (lv' := [(0, .ref (L a0)), (1, .int a1), (2, .int a2), (3, .int a3), (4, .ref (L a4)), (5, .ref q9)]) C dL_soonestOrder_15 (by decide) [1, 2, 3, 4, 5, 0] rfl rfl ?_
      refine a_iconst (v := 1) C dL_soonestOrder_17 (by decide) rfl ?_
      exact a_iret C dL_soonestOrder_18 hr hlocks (Nat.le_of_ble_eq_true rfl) (Nat.le_of_ble_eq_true rfl) h
    · refine a_catch C [⟨0, 12, 15, 19⟩] ⟨0, 12, 19, 13⟩ [] (htab.trans rfl) (fun z hz => by rw [List.mem_singleton] at hz; subst hz; exact ⟨by decide, _, kw_4_147, List.mem_of_getElem? (i := 0) rfl⟩) (by decide) (by decide) kw_3_132 (List.mem_of_getElem? (i := 0) rfl) (fun q9 => ?_)
      refine a_astore (lv' := [(0, .ref (L a0)), (1, .int a1), (2, .int a2), (3, .int a3), (4, .ref (L a4)), (5, .ref q9)]) C dL_soonestOrder_19 (by decide) [1, 2, 3, 4, 5, 0] rfl rfl ?_
      refine a_iconst (v := 2) C dL_soonestOrder_21 (by decide) rfl ?_
      exact a_iret C dL_soonestOrder_22 hr hlocks (Nat.le_of_ble_eq_true rfl) (Nat.le_of_ble_eq_true rfl) h
  · refine a_i2l C dL_soonestOrder_10 rfl ?_
    obtain ⟨q11, h⟩ := h
    refine a_last C dL_soonestOrder_11 ha4 rfl q11 rfl ?_
    refine a_goto (tgt := 23) C dL_soonestOrder_12 (by decide) ?_
    refine a_iconst (v := 0) C dL_soonestOrder_23 (by decide) rfl ?_
    exact a_iret C dL_soonestOrder_24 hr hlocks (Nat.le_of_ble_eq_true rfl) (Nat.le_of_ble_eq_true rfl) h

/-! CensusWalkLaw.division(LCensusWalk;I[J)I -/
theorem pd_L_division : (⟨"CensusWalkLaw", "division", "(LCensusWalk;I[J)I"⟩ : MethodName).cls ≠ "java/lang/invoke/MethodHandle" ∧ (⟨"CensusWalkLaw", "division", "(LCensusWalk;I[J)I"⟩ : MethodName).cls ≠ "java/lang/invoke/VarHandle" ∧ (parseMethodDescriptor (⟨"CensusWalkLaw", "division", "(LCensusWalk;I[J)I"⟩ : MethodName).desc).map (fun d => d.parameters.length) = some 3 := by decide +kernel
def wp_L_division (E : ms_En) (u : ms_St) (a0 : Nat) (a1 : Int32) (a2 : Nat) (post : Int32 → ms_St → Prop) : Prop := wp_X10_division E u a0 a1 (fun r4 u4 => vp_in 0 (ms_N E a2) ∧ (post 0 (ms_sJ u4 a2 (Int32.toNatClampNeg 0) (Int32.toInt64 r4)))) (fun X9 u4x => (X9 = "java/lang/IllegalArgumentException" ∧ post 1 u4x))
set_option maxHeartbeats 4000000 in
set_option maxRecDepth 100000 in
theorem c_L_division (l : Launch) (G : va_G) (cy : Nat → ClassId) (L : Nat → Nat) (E : ms_En) (hE : ms_WT E) (hl9 : l.stackTraces = false) (u : ms_St) (a0 : Nat) (a1 : Int32) (a2 : Nat) (ha0 : ms_is E a0 10) (ha2 : ms_is E a2 14) (post : Int32 → ms_St → Prop) (h : wp_L_division E u a0 a1 a2 post) : ms_MetI l ⟨"CensusWalkLaw", "division", "(LCensusWalk;I[J)I"⟩ (Cond.codeWith ⟨"CensusWalkLaw", "division", "(LCensusWalk;I[J)I"⟩ method_19_code 4 (some .int) [(0, 9, 12, 13)] :: lw_g) ({ frames := 59, cells := 1, slots := 6, locals := 3228 } : Room) G cy L E [.ref (L a0), .int a1, .ref (L a2)] u post 1 6 := by
  refine ms_enterWI (lv := [(0, .ref (L a0)), (1, .int a1), (2, .ref (L a2))]) (by decide) (Nat.le_of_ble_eq_true rfl) rfl ?_
  intro p e s m args below meth c A C hr hlocks htab
  unfold wp_L_division at h
  refine a_aload_n C dL_division_0 rfl 2 rfl rfl ?_
  refine a_iconst (v := 0) C dL_division_1 (by decide) rfl ?_
  refine a_aload_n C dL_division_2 rfl 0 rfl rfl ?_
  refine a_iload_n C dL_division_3 rfl 1 rfl rfl ?_
  refine a_ycallI C (c_X10_division l G cy L E hE hl9 u a0 a1 ha0 _ _ h) ha0 rfl (by decide) kw_5_132 kw_5_133 kw_5_134 kw_1_1 kw_5_135 rfl rfl pd_X10_division ⟨(Nat.le_of_ble_eq_true rfl), (Nat.le_of_ble_eq_true rfl)⟩ dL_division_4 rfl (Nat.le_of_ble_eq_true rfl) ⟨(Nat.le_of_ble_eq_true rfl), (Nat.le_of_ble_eq_true rfl)⟩ rfl (fun X9 u4x h => ?_) (fun r4 u4 h => ?_)
  · obtain ⟨rfl, h⟩ := h
    refine a_catch C [] ⟨0, 9, 12, 13⟩ [] (htab.trans rfl) (fun z hz => absurd hz List.not_mem_nil) (by decide) (by decide) kw_3_132 (List.mem_of_getElem? (i := 0) rfl) (fun q9 => ?_)
    refine a_astore_n (lv' := [(0, .ref (L a0)), (1, .int a1), (2, .ref (L a2)), (3, .ref q9)]) C dL_division_12 rfl (by decide) [1, 2, 3, 0] rfl rfl ?_
    refine a_iconst (v := 1) C dL_division_13 (by decide) rfl ?_
    exact a_iret C dL_division_14 hr hlocks (Nat.le_of_ble_eq_true rfl) (Nat.le_of_ble_eq_true rfl) h
  · refine a_i2l C dL_division_7 rfl ?_
    obtain ⟨q8, h⟩ := h
    refine a_last C dL_division_8 ha2 rfl q8 rfl ?_
    refine a_goto (tgt := 15) C dL_division_9 (by decide) ?_
    refine a_iconst (v := 0) C dL_division_15 (by decide) rfl ?_
    exact a_iret C dL_division_16 hr hlocks (Nat.le_of_ble_eq_true rfl) (Nat.le_of_ble_eq_true rfl) h

/-! CensusWalkLaw.walkerOf(LCensusWalk;II[J)I -/
theorem pd_L_walkerOf : (⟨"CensusWalkLaw", "walkerOf", "(LCensusWalk;II[J)I"⟩ : MethodName).cls ≠ "java/lang/invoke/MethodHandle" ∧ (⟨"CensusWalkLaw", "walkerOf", "(LCensusWalk;II[J)I"⟩ : MethodName).cls ≠ "java/lang/invoke/VarHandle" ∧ (parseMethodDescriptor (⟨"CensusWalkLaw", "walkerOf", "(LCensusWalk;II[J)I"⟩ : MethodName).desc).map (fun d => d.parameters.length) = some 4 := by decide +kernel
def wp_L_walkerOf (E : ms_En) (u : ms_St) (a0 : Nat) (a1 : Int32) (a2 : Int32) (a3 : Nat) (post : Int32 → ms_St → Prop) : Prop := wp_X10_walkerOf E u a0 a1 a2 (fun r5 u5 => vp_in 0 (ms_N E a3) ∧ (post 0 (ms_sJ u5 a3 (Int32.toNatClampNeg 0) (Int32.toInt64 r5)))) (fun X9 u5x => (X9 = "java/lang/IndexOutOfBoundsException" ∧ post 1 u5x) ∨ (X9 = "java/lang/IllegalArgumentException" ∧ post 2 u5x))
set_option maxHeartbeats 4000000 in
set_option maxRecDepth 100000 in
theorem c_L_walkerOf (l : Launch) (G : va_G) (cy : Nat → ClassId) (L : Nat → Nat) (E : ms_En) (hE : ms_WT E) (hl9 : l.stackTraces = false) (u : ms_St) (a0 : Nat) (a1 : Int32) (a2 : Int32) (a3 : Nat) (ha0 : ms_is E a0 10) (ha3 : ms_is E a3 14) (post : Int32 → ms_St → Prop) (h : wp_L_walkerOf E u a0 a1 a2 a3 post) : ms_MetI l ⟨"CensusWalkLaw", "walkerOf", "(LCensusWalk;II[J)I"⟩ (Cond.codeWith ⟨"CensusWalkLaw", "walkerOf", "(LCensusWalk;II[J)I"⟩ method_20_code 5 (some .int) [(0, 10, 13, 19), (0, 10, 17, 13)] :: lw_g) ({ frames := 59, cells := 2, slots := 12, locals := 3229 } : Room) G cy L E [.ref (L a0), .int a1, .int a2, .ref (L a3)] u post 2 12 := by
  refine ms_enterWI (lv := [(0, .ref (L a0)), (1, .int a1), (2, .int a2), (3, .ref (L a3))]) (by decide) (Nat.le_of_ble_eq_true rfl) rfl ?_
  intro p e s m args below meth c A C hr hlocks htab
  unfold wp_L_walkerOf at h
  refine a_aload_n C dL_walkerOf_0 rfl 3 rfl rfl ?_
  refine a_iconst (v := 0) C dL_walkerOf_1 (by decide) rfl ?_
  refine a_aload_n C dL_walkerOf_2 rfl 0 rfl rfl ?_
  refine a_iload_n C dL_walkerOf_3 rfl 1 rfl rfl ?_
  refine a_iload_n C dL_walkerOf_4 rfl 2 rfl rfl ?_
  refine a_ycallI C (c_X10_walkerOf l G cy L E hE hl9 u a0 a1 a2 ha0 _ _ h) ha0 rfl (by decide) kw_5_152 kw_5_153 kw_5_154 kw_1_1 kw_5_155 rfl rfl pd_X10_walkerOf ⟨(Nat.le_of_ble_eq_true rfl), (Nat.le_of_ble_eq_true rfl)⟩ dL_walkerOf_5 rfl (Nat.le_of_ble_eq_true rfl) ⟨(Nat.le_of_ble_eq_true rfl), (Nat.le_of_ble_eq_true rfl)⟩ rfl (fun X9 u5x h => ?_) (fun r5 u5 h => ?_)
  · rcases h with ⟨rfl, h⟩ | ⟨rfl, h⟩
    · refine a_catch C [] ⟨0, 10, 13, 19⟩ [⟨0, 10, 17, 13⟩] (htab.trans rfl) (fun z hz => absurd hz List.not_mem_nil) (by decide) (by decide) kw_4_147 (List.mem_of_getElem? (i := 1) rfl) (fun q9 => ?_)
      refine a_astore (lv' := [(0, .ref (L a0)), (1, .int a1), (2, .int a2), (3, .ref (L a3)), (4, .ref q9)]) C dL_walkerOf_13 (by decide) [1, 2, 3, 4, 0] rfl rfl ?_
      refine a_iconst (v := 1) C dL_walkerOf_15 (by decide) rfl ?_
      exact a_iret C dL_walkerOf_16 hr hlocks (Nat.le_of_ble_eq_true rfl) (Nat.le_of_ble_eq_true rfl) h
    · refine a_catch C [⟨0, 10, 13, 19⟩] ⟨0, 10, 17, 13⟩ [] (htab.trans rfl) (fun z hz => by rw [List.mem_singleton] at hz; subst hz; exact ⟨by decide, _, kw_4_147, List.mem_of_getElem? (i := 0) rfl⟩) (by decide) (by decide) kw_3_132 (List.mem_of_getElem? (i := 0) rfl) (fun q9 => ?_)
      refine a_astore (lv' := [(0, .ref (L a0)), (1, .int a1), (2, .int a2), (3, .ref (L a3)), (4, .ref q9)]) C dL_walkerOf_17 (by decide) [1, 2, 3, 4, 0] rfl rfl ?_
      refine a_iconst (v := 2) C dL_walkerOf_19 (by decide) rfl ?_
      exact a_iret C dL_walkerOf_20 hr hlocks (Nat.le_of_ble_eq_true rfl) (Nat.le_of_ble_eq_true rfl) h
  · refine a_i2l C dL_walkerOf_8 rfl ?_
    obtain ⟨q9, h⟩ := h
    refine a_last C dL_walkerOf_9 ha3 rfl q9 rfl ?_
    refine a_goto (tgt := 21) C dL_walkerOf_10 (by decide) ?_
    refine a_iconst (v := 0) C dL_walkerOf_21 (by decide) rfl ?_
    exact a_iret C dL_walkerOf_22 hr hlocks (Nat.le_of_ble_eq_true rfl) (Nat.le_of_ble_eq_true rfl) h

/-! CensusWalkLaw.plan(LCensusWalk;II[J)I -/
theorem pd_L_plan : (⟨"CensusWalkLaw", "plan", "(LCensusWalk;II[J)I"⟩ : MethodName).cls ≠ "java/lang/invoke/MethodHandle" ∧ (⟨"CensusWalkLaw", "plan", "(LCensusWalk;II[J)I"⟩ : MethodName).cls ≠ "java/lang/invoke/VarHandle" ∧ (parseMethodDescriptor (⟨"CensusWalkLaw", "plan", "(LCensusWalk;II[J)I"⟩ : MethodName).desc).map (fun d => d.parameters.length) = some 4 := by decide +kernel
def wp_L_plan (E : ms_En) (u : ms_St) (a0 : Nat) (a1 : Int32) (a2 : Int32) (a3 : Nat) (post : Int32 → ms_St → Prop) : Prop := wp_X10_plan E u a0 a1 a2 (fun r5 u5 => vp_in 0 (ms_N E a3) ∧ (post 0 (ms_sJ u5 a3 (Int32.toNatClampNeg 0) (Int32.toInt64 r5)))) (fun X9 u5x => (X9 = "java/lang/IndexOutOfBoundsException" ∧ post 1 u5x) ∨ (X9 = "java/lang/IllegalStateException" ∧ post 2 u5x))
set_option maxHeartbeats 4000000 in
set_option maxRecDepth 100000 in
theorem c_L_plan (l : Launch) (G : va_G) (cy : Nat → ClassId) (L : Nat → Nat) (E : ms_En) (hE : ms_WT E) (hl9 : l.stackTraces = false) (u : ms_St) (a0 : Nat) (a1 : Int32) (a2 : Int32) (a3 : Nat) (ha0 : ms_is E a0 10) (ha3 : ms_is E a3 14) (post : Int32 → ms_St → Prop) (h : wp_L_plan E u a0 a1 a2 a3 post) : ms_MetI l ⟨"CensusWalkLaw", "plan", "(LCensusWalk;II[J)I"⟩ (Cond.codeWith ⟨"CensusWalkLaw", "plan", "(LCensusWalk;II[J)I"⟩ method_21_code 5 (some .int) [(0, 10, 13, 19), (0, 10, 17, 75)] :: lw_g) ({ frames := 8, cells := 3, slots := 18, locals := 164 } : Room) G cy L E [.ref (L a0), .int a1, .int a2, .ref (L a3)] u post 3 18 := by
  refine ms_enterWI (lv := [(0, .ref (L a0)), (1, .int a1), (2, .int a2), (3, .ref (L a3))]) (by decide) (Nat.le_of_ble_eq_true rfl) rfl ?_
  intro p e s m args below meth c A C hr hlocks htab
  unfold wp_L_plan at h
  refine a_aload_n C dL_plan_0 rfl 3 rfl rfl ?_
  refine a_iconst (v := 0) C dL_plan_1 (by decide) rfl ?_
  refine a_aload_n C dL_plan_2 rfl 0 rfl rfl ?_
  refine a_iload_n C dL_plan_3 rfl 1 rfl rfl ?_
  refine a_iload_n C dL_plan_4 rfl 2 rfl rfl ?_
  refine a_ycallI C (c_X10_plan l G cy L E hE hl9 u a0 a1 a2 ha0 _ _ h) ha0 rfl (by decide) kw_5_164 kw_5_165 kw_5_166 kw_1_1 kw_5_167 rfl rfl pd_X10_plan ⟨(Nat.le_of_ble_eq_true rfl), (Nat.le_of_ble_eq_true rfl)⟩ dL_plan_5 rfl (Nat.le_of_ble_eq_true rfl) ⟨(Nat.le_of_ble_eq_true rfl), (Nat.le_of_ble_eq_true rfl)⟩ rfl (fun X9 u5x h => ?_) (fun r5 u5 h => ?_)
  · rcases h with ⟨rfl, h⟩ | ⟨rfl, h⟩
    · refine a_catch C [] ⟨0, 10, 13, 19⟩ [⟨0, 10, 17, 75⟩] (htab.trans rfl) (fun z hz => absurd hz List.not_mem_nil) (by decide) (by decide) kw_4_147 (List.mem_of_getElem? (i := 1) rfl) (fun q9 => ?_)
      refine a_astore (lv' := [(0, .ref (L a0)), (1, .int a1), (2, .int a2), (3, .ref (L a3)), (4, .ref q9)]) C dL_plan_13 (by decide) [1, 2, 3, 4, 0] rfl rfl ?_
      refine a_iconst (v := 1) C dL_plan_15 (by decide) rfl ?_
      exact a_iret C dL_plan_16 hr hlocks (Nat.le_of_ble_eq_true rfl) (Nat.le_of_ble_eq_true rfl) h
    · refine a_catch C [⟨0, 10, 13, 19⟩] ⟨0, 10, 17, 75⟩ [] (htab.trans rfl) (fun z hz => by rw [List.mem_singleton] at hz; subst hz; exact ⟨by decide, _, kw_4_147, List.mem_of_getElem? (i := 1) rfl⟩) (by decide) (by decide) kw_5_163 (List.mem_of_getElem? (i := 2) rfl) (fun q9 => ?_)
      refine a_astore (lv' := [(0, .ref (L a0)), (1, .int a1), (2, .int a2), (3, .ref (L a3)), (4, .ref q9)]) C dL_plan_17 (by decide) [1, 2, 3, 4, 0] rfl rfl ?_
      refine a_iconst (v := 2) C dL_plan_19 (by decide) rfl ?_
      exact a_iret C dL_plan_20 hr hlocks (Nat.le_of_ble_eq_true rfl) (Nat.le_of_ble_eq_true rfl) h
  · refine a_i2l C dL_plan_8 rfl ?_
    obtain ⟨q9, h⟩ := h
    refine a_last C dL_plan_9 ha3 rfl q9 rfl ?_
    refine a_goto (tgt := 21) C dL_plan_10 (by decide) ?_
    refine a_iconst (v := 0) C dL_plan_21 (by decide) rfl ?_
    exact a_iret C dL_plan_22 hr hlocks (Nat.le_of_ble_eq_true rfl) (Nat.le_of_ble_eq_true rfl) h

/-! CensusWalkLaw.unplan(LCensusWalk;I[J)I -/
theorem pd_L_unplan : (⟨"CensusWalkLaw", "unplan", "(LCensusWalk;I[J)I"⟩ : MethodName).cls ≠ "java/lang/invoke/MethodHandle" ∧ (⟨"CensusWalkLaw", "unplan", "(LCensusWalk;I[J)I"⟩ : MethodName).cls ≠ "java/lang/invoke/VarHandle" ∧ (parseMethodDescriptor (⟨"CensusWalkLaw", "unplan", "(LCensusWalk;I[J)I"⟩ : MethodName).desc).map (fun d => d.parameters.length) = some 3 := by decide +kernel
def wp_L_unplan (E : ms_En) (u : ms_St) (a0 : Nat) (a1 : Int32) (a2 : Nat) (post : Int32 → ms_St → Prop) : Prop := wp_X10_unplan E u a0 a1 (fun r4 u4 => vp_in 0 (ms_N E a2) ∧ (post 0 (ms_sJ u4 a2 (Int32.toNatClampNeg 0) (Int32.toInt64 r4)))) (fun X9 u4x => (X9 = "java/lang/IndexOutOfBoundsException" ∧ post 1 u4x) ∨ (X9 = "java/lang/IllegalStateException" ∧ post 2 u4x))
set_option maxHeartbeats 4000000 in
set_option maxRecDepth 100000 in
theorem c_L_unplan (l : Launch) (G : va_G) (cy : Nat → ClassId) (L : Nat → Nat) (E : ms_En) (hE : ms_WT E) (hl9 : l.stackTraces = false) (u : ms_St) (a0 : Nat) (a1 : Int32) (a2 : Nat) (ha0 : ms_is E a0 10) (ha2 : ms_is E a2 14) (post : Int32 → ms_St → Prop) (h : wp_L_unplan E u a0 a1 a2 post) : ms_MetI l ⟨"CensusWalkLaw", "unplan", "(LCensusWalk;I[J)I"⟩ (Cond.codeWith ⟨"CensusWalkLaw", "unplan", "(LCensusWalk;I[J)I"⟩ method_22_code 4 (some .int) [(0, 9, 12, 19), (0, 9, 15, 75)] :: lw_g) ({ frames := 8, cells := 2, slots := 12, locals := 163 } : Room) G cy L E [.ref (L a0), .int a1, .ref (L a2)] u post 2 12 := by
  refine ms_enterWI (lv := [(0, .ref (L a0)), (1, .int a1), (2, .ref (L a2))]) (by decide) (Nat.le_of_ble_eq_true rfl) rfl ?_
  intro p e s m args below meth c A C hr hlocks htab
  unfold wp_L_unplan at h
  refine a_aload_n C dL_unplan_0 rfl 2 rfl rfl ?_
  refine a_iconst (v := 0) C dL_unplan_1 (by decide) rfl ?_
  refine a_aload_n C dL_unplan_2 rfl 0 rfl rfl ?_
  refine a_iload_n C dL_unplan_3 rfl 1 rfl rfl ?_
  refine a_ycallI C (c_X10_unplan l G cy L E hE hl9 u a0 a1 ha0 _ _ h) ha0 rfl (by decide) kw_5_187 kw_5_188 kw_5_189 kw_1_1 kw_5_190 rfl rfl pd_X10_unplan ⟨(Nat.le_of_ble_eq_true rfl), (Nat.le_of_ble_eq_true rfl)⟩ dL_unplan_4 rfl (Nat.le_of_ble_eq_true rfl) ⟨(Nat.le_of_ble_eq_true rfl), (Nat.le_of_ble_eq_true rfl)⟩ rfl (fun X9 u4x h => ?_) (fun r4 u4 h => ?_)
  · rcases h with ⟨rfl, h⟩ | ⟨rfl, h⟩
    · refine a_catch C [] ⟨0, 9, 12, 19⟩ [⟨0, 9, 15, 75⟩] (htab.trans rfl) (fun z hz => absurd hz List.not_mem_nil) (by decide) (by decide) kw_4_147 (List.mem_of_getElem? (i := 1) rfl) (fun q9 => ?_)
      refine a_astore_n (lv' := [(0, .ref (L a0)), (1, .int a1), (2, .ref (L a2)), (3, .ref q9)]) C dL_unplan_12 rfl (by decide) [1, 2, 3, 0] rfl rfl ?_
      refine a_iconst (v := 1) C dL_unplan_13 (by decide) rfl ?_
      exact a_iret C dL_unplan_14 hr hlocks (Nat.le_of_ble_eq_true rfl) (Nat.le_of_ble_eq_true rfl) h
    · refine a_catch C [⟨0, 9, 12, 19⟩] ⟨0, 9, 15, 75⟩ [] (htab.trans rfl) (fun z hz => by rw [List.mem_singleton] at hz; subst hz; exact ⟨by decide, _, kw_4_147, List.mem_of_getElem? (i := 1) rfl⟩) (by decide) (by decide) kw_5_163 (List.mem_of_getElem? (i := 2) rfl) (fun q9 => ?_)
      refine a_astore_n (lv' := [(0, .ref (L a0)), (1, .int a1), (2, .ref (L a2)), (3, .ref q9)]) C dL_unplan_15 rfl (by decide) [1, 2, 3, 0] rfl rfl ?_
      refine a_iconst (v := 2) C dL_unplan_16 (by decide) rfl ?_
      exact a_iret C dL_unplan_17 hr hlocks (Nat.le_of_ble_eq_true rfl) (Nat.le_of_ble_eq_true rfl) h
  · refine a_i2l C dL_unplan_7 rfl ?_
    obtain ⟨q8, h⟩ := h
    refine a_last C dL_unplan_8 ha2 rfl q8 rfl ?_
    refine a_goto (tgt := 18) C dL_unplan_9 (by decide) ?_
    refine a_iconst (v := 0) C dL_unplan_18 (by decide) rfl ?_
    exact a_iret C dL_unplan_19 hr hlocks (Nat.le_of_ble_eq_true rfl) (Nat.le_of_ble_eq_true rfl) h

/-! CensusWalkLaw.setHours(LCensusWalk;III[J)I -/
theorem pd_L_setHours : (⟨"CensusWalkLaw", "setHours", "(LCensusWalk;III[J)I"⟩ : MethodName).cls ≠ "java/lang/invoke/MethodHandle" ∧ (⟨"CensusWalkLaw", "setHours", "(LCensusWalk;III[J)I"⟩ : MethodName).cls ≠ "java/lang/invoke/VarHandle" ∧ (parseMethodDescriptor (⟨"CensusWalkLaw", "setHours", "(LCensusWalk;III[J)I"⟩ : MethodName).desc).map (fun d => d.parameters.length) = some 5 := by decide +kernel
def wp_L_setHours (E : ms_En) (u : ms_St) (a0 : Nat) (a1 : Int32) (a2 : Int32) (a3 : Int32) (a4 : Nat) (post : Int32 → ms_St → Prop) : Prop := wp_X10_setHours E u a0 a1 a2 a3 (fun r7 u7 => vp_in 0 (ms_N E a4) ∧ (post 0 (ms_sJ u7 a4 (Int32.toNatClampNeg 0) (Int32.toInt64 r7)))) (fun X9 u7x => (X9 = "java/lang/IndexOutOfBoundsException" ∧ post 1 u7x) ∨ (X9 = "java/lang/IllegalArgumentException" ∧ post 2 u7x))
set_option maxHeartbeats 4000000 in
set_option maxRecDepth 100000 in
theorem c_L_setHours (l : Launch) (G : va_G) (cy : Nat → ClassId) (L : Nat → Nat) (E : ms_En) (hE : ms_WT E) (hl9 : l.stackTraces = false) (u : ms_St) (a0 : Nat) (a1 : Int32) (a2 : Int32) (a3 : Int32) (a4 : Nat) (ha0 : ms_is E a0 10) (ha4 : ms_is E a4 14) (post : Int32 → ms_St → Prop) (h : wp_L_setHours E u a0 a1 a2 a3 a4 post) : ms_MetI l ⟨"CensusWalkLaw", "setHours", "(LCensusWalk;III[J)I"⟩ (Cond.codeWith ⟨"CensusWalkLaw", "setHours", "(LCensusWalk;III[J)I"⟩ method_23_code 6 (some .int) [(0, 12, 15, 19), (0, 12, 19, 13)] :: lw_g) ({ frames := 8, cells := 2, slots := 12, locals := 188 } : Room) G cy L E [.ref (L a0), .int a1, .int a2, .int a3, .ref (L a4)] u post 2 12 := by
  refine ms_enterWI (lv := [(0, .ref (L a0)), (1, .int a1), (2, .int a2), (3, .int a3), (4, .ref (L a4))]) (by decide) (Nat.le_of_ble_eq_true rfl) rfl ?_
  intro p e s m args below meth c A C hr hlocks htab
  unfold wp_L_setHours at h
  refine a_aload C dL_setHours_0 4 rfl rfl ?_
  refine a_iconst (v := 0) C dL_setHours_2 (by decide) rfl ?_
  refine a_aload_n C dL_setHours_3 rfl 0 rfl rfl ?_
  refine a_iload_n C dL_setHours_4 rfl 1 rfl rfl ?_
  refine a_iload_n C dL_setHours_5 rfl 2 rfl rfl ?_
  refine a_iload_n C dL_setHours_6 rfl 3 rfl rfl ?_
  refine a_ycallI C (c_X10_setHours l G cy L E hE hl9 u a0 a1 a2 a3 ha0 _ _ h) ha0 rfl (by decide) kw_5_195 kw_5_196 kw_5_197 kw_1_1 kw_5_198 rfl rfl pd_X10_setHours ⟨(Nat.le_of_ble_eq_true rfl), (Nat.le_of_ble_eq_true rfl)⟩ dL_setHours_7 rfl (Nat.le_of_ble_eq_true rfl) ⟨(Nat.le_of_ble_eq_true rfl), (Nat.le_of_ble_eq_true rfl)⟩ rfl (fun X9 u7x h => ?_) (fun r7 u7 h => ?_)
  · rcases h with ⟨rfl, h⟩ | ⟨rfl, h⟩
    · refine a_catch C [] ⟨0, 12, 15, 19⟩ [⟨0, 12, 19, 13⟩] (htab.trans rfl) (fun z hz => absurd hz List.not_mem_nil) (by decide) (by decide) kw_4_147 (List.mem_of_getElem? (i := 1) rfl) (fun q9 => ?_)
      refine a_astore (lv' := [(0, .ref (L a0)), (1, .int a1), (2, .int a2), (3, .int a3), (4, .ref (L a4)), (5, .ref q9)]) C dL_setHours_15 (by decide) [1, 2, 3, 4, 5, 0] rfl rfl ?_
      refine a_iconst (v := 1) C dL_setHours_17 (by decide) rfl ?_
      exact a_iret C dL_setHours_18 hr hlocks (Nat.le_of_ble_eq_true rfl) (Nat.le_of_ble_eq_true rfl) h
    · refine a_catch C [⟨0, 12, 15, 19⟩] ⟨0, 12, 19, 13⟩ [] (htab.trans rfl) (fun z hz => by rw [List.mem_singleton] at hz; subst hz; exact ⟨by decide, _, kw_4_147, List.mem_of_getElem? (i := 0) rfl⟩) (by decide) (by decide) kw_3_132 (List.mem_of_getElem? (i := 0) rfl) (fun q9 => ?_)
      refine a_astore (lv' := [(0, .ref (L a0)), (1, .int a1), (2, .int a2), (3, .int a3), (4, .ref (L a4)), (5, .ref q9)]) C dL_setHours_19 (by decide) [1, 2, 3, 4, 5, 0] rfl rfl ?_
      refine a_iconst (v := 2) C dL_setHours_21 (by decide) rfl ?_
      exact a_iret C dL_setHours_22 hr hlocks (Nat.le_of_ble_eq_true rfl) (Nat.le_of_ble_eq_true rfl) h
  · refine a_i2l C dL_setHours_10 rfl ?_
    obtain ⟨q11, h⟩ := h
    refine a_last C dL_setHours_11 ha4 rfl q11 rfl ?_
    refine a_goto (tgt := 23) C dL_setHours_12 (by decide) ?_
    refine a_iconst (v := 0) C dL_setHours_23 (by decide) rfl ?_
    exact a_iret C dL_setHours_24 hr hlocks (Nat.le_of_ble_eq_true rfl) (Nat.le_of_ble_eq_true rfl) h

/-! CensusWalkLaw.setDog(LCensusWalk;IZ[J)I -/
theorem pd_L_setDog : (⟨"CensusWalkLaw", "setDog", "(LCensusWalk;IZ[J)I"⟩ : MethodName).cls ≠ "java/lang/invoke/MethodHandle" ∧ (⟨"CensusWalkLaw", "setDog", "(LCensusWalk;IZ[J)I"⟩ : MethodName).cls ≠ "java/lang/invoke/VarHandle" ∧ (parseMethodDescriptor (⟨"CensusWalkLaw", "setDog", "(LCensusWalk;IZ[J)I"⟩ : MethodName).desc).map (fun d => d.parameters.length) = some 4 := by decide +kernel
def wp_L_setDog_16 (E : ms_En) (a0 : Nat) (a1 : Int32) (a2 : Int32) (a3 : Nat) (post : Int32 → ms_St → Prop)  (u : ms_St) (z0 : Int64) (z1 : Int32) (z2 : Nat) : Prop := vp_in z1 (ms_N E z2) ∧ (post 0 (ms_sJ u z2 (Int32.toNatClampNeg z1) z0))
set_option maxHeartbeats 4000000 in
set_option maxRecDepth 100000 in
theorem c_L_setDog_16 {p : Program} {l : Launch} {e : Env} {s : State} {m : MethodId} {args : Array Value} {below : List Frame} {meth : Method} {c : Code} {G : va_G} {cy : Nat → ClassId} {A : Nat → Prop} {L : Nat → Nat} {E : ms_En} (C : ms_Cx p m c cL_setDog 5 s args (Cond.codeWith ⟨"CensusWalkLaw", "setDog", "(LCensusWalk;IZ[J)I"⟩ method_24_code 5 (some .int) [(0, 17, 20, 19)]) "CensusWalkLaw" G cy A) (hr : meth.sig.returnType = (some .int)) (hlocks : meth.locks = false) (htab : c.exceptionTable.toList = tableOf [(0, 17, 20, 19)]) (hl9 : l.stackTraces = false) (hE : ms_WT E) {a0 : Nat} {a1 : Int32} {a2 : Int32} {a3 : Nat} {post : Int32 → ms_St → Prop}  (ha0 : ms_is E a0 10) (ha3 : ms_is E a3 14)  (u : ms_St) (z0 : Int64) (z1 : Int32) (z2 : Nat) (k_z2 : ms_is E z2 14) (h : wp_L_setDog_16 E a0 a1 a2 a3 post u z0 z1 z2) : ms_At p l e ({ frames := 8, cells := 1, slots := 6, locals := 164 } : Room) s m args below meth c 5 G cy A L 1 6 (ms_QI below args s G cy L E A post 1 6) E u 16 [] [.long z0, .int z1, .ref (L z2)] := by
  unfold wp_L_setDog_16 at h
  obtain ⟨q16, h⟩ := h
  refine a_last C dL_setDog_16 k_z2 rfl q16 rfl ?_
  refine a_goto (tgt := 24) C dL_setDog_17 (by decide) ?_
  refine a_iconst (v := 0) C dL_setDog_24 (by decide) rfl ?_
  exact a_iret C dL_setDog_25 hr hlocks (Nat.le_of_ble_eq_true rfl) (Nat.le_of_ble_eq_true rfl) h
def wp_L_setDog (E : ms_En) (u : ms_St) (a0 : Nat) (a1 : Int32) (a2 : Int32) (a3 : Nat) (post : Int32 → ms_St → Prop) : Prop := wp_X10_setDog E u a0 a1 a2 (fun r5 u5 => (r5 = 0 → wp_L_setDog_16 E a0 a1 a2 a3 post u5 0 0 a3) ∧ (¬ r5 = 0 → wp_L_setDog_16 E a0 a1 a2 a3 post u5 1 0 a3)) (fun X9 u5x => (X9 = "java/lang/IndexOutOfBoundsException" ∧ post 1 u5x))
set_option maxHeartbeats 4000000 in
set_option maxRecDepth 100000 in
theorem c_L_setDog (l : Launch) (G : va_G) (cy : Nat → ClassId) (L : Nat → Nat) (E : ms_En) (hE : ms_WT E) (hl9 : l.stackTraces = false) (u : ms_St) (a0 : Nat) (a1 : Int32) (a2 : Int32) (a3 : Nat) (ha0 : ms_is E a0 10) (ha3 : ms_is E a3 14) (post : Int32 → ms_St → Prop) (h : wp_L_setDog E u a0 a1 a2 a3 post) : ms_MetI l ⟨"CensusWalkLaw", "setDog", "(LCensusWalk;IZ[J)I"⟩ (Cond.codeWith ⟨"CensusWalkLaw", "setDog", "(LCensusWalk;IZ[J)I"⟩ method_24_code 5 (some .int) [(0, 17, 20, 19)] :: lw_g) ({ frames := 8, cells := 1, slots := 6, locals := 164 } : Room) G cy L E [.ref (L a0), .int a1, .int a2, .ref (L a3)] u post 1 6 := by
  refine ms_enterWI (lv := [(0, .ref (L a0)), (1, .int a1), (2, .int a2), (3, .ref (L a3))]) (by decide) (Nat.le_of_ble_eq_true rfl) rfl ?_
  intro p e s m args below meth c A C hr hlocks htab
  unfold wp_L_setDog at h
  refine a_aload_n C dL_setDog_0 rfl 3 rfl rfl ?_
  refine a_iconst (v := 0) C dL_setDog_1 (by decide) rfl ?_
  refine a_aload_n C dL_setDog_2 rfl 0 rfl rfl ?_
  refine a_iload_n C dL_setDog_3 rfl 1 rfl rfl ?_
  refine a_iload_n C dL_setDog_4 rfl 2 rfl rfl ?_
  refine a_ycallI C (c_X10_setDog l G cy L E hE hl9 u a0 a1 a2 ha0 _ _ h) ha0 rfl (by decide) kw_5_203 kw_5_204 kw_5_205 kw_1_1 kw_5_206 rfl rfl pd_X10_setDog ⟨(Nat.le_of_ble_eq_true rfl), (Nat.le_of_ble_eq_true rfl)⟩ dL_setDog_5 rfl (Nat.le_of_ble_eq_true rfl) ⟨(Nat.le_of_ble_eq_true rfl), (Nat.le_of_ble_eq_true rfl)⟩ rfl (fun X9 u5x h => ?_) (fun r5 u5 h => ?_)
  · obtain ⟨rfl, h⟩ := h
    refine a_catch C [] ⟨0, 17, 20, 19⟩ [] (htab.trans rfl) (fun z hz => absurd hz List.not_mem_nil) (by decide) (by decide) kw_4_147 (List.mem_of_getElem? (i := 1) rfl) (fun q9 => ?_)
    refine a_astore (lv' := [(0, .ref (L a0)), (1, .int a1), (2, .int a2), (3, .ref (L a3)), (4, .ref q9)]) C dL_setDog_20 (by decide) [1, 2, 3, 4, 0] rfl rfl ?_
    refine a_iconst (v := 1) C dL_setDog_22 (by decide) rfl ?_
    exact a_iret C dL_setDog_23 hr hlocks (Nat.le_of_ble_eq_true rfl) (Nat.le_of_ble_eq_true rfl) h
  · refine a_if_eq (tgt := 15) C dL_setDog_8 (by decide) rfl (fun hc => ?_) (fun hc => ?_)
    · replace h := h.1 hc
      refine a_lconst (v := 0) C dL_setDog_15 (by decide) rfl ?_
      refine a_wid (k := 1) (n := 6) (Nat.le_of_ble_eq_true rfl) (Nat.le_of_ble_eq_true rfl) ?_
      refine a_sub (lv' := []) [] rfl ?_
      exact c_L_setDog_16 C hr hlocks htab hl9 hE ha0 ha3  u5 0 0 a3 ha3 h
    · replace h := h.2 hc
      refine a_lconst (v := 1) C dL_setDog_11 (by decide) rfl ?_
      refine a_goto (tgt := 16) C dL_setDog_12 (by decide) ?_
      refine a_wid (k := 1) (n := 6) (Nat.le_of_ble_eq_true rfl) (Nat.le_of_ble_eq_true rfl) ?_
      refine a_sub (lv' := []) [] rfl ?_
      exact c_L_setDog_16 C hr hlocks htab hl9 hE ha0 ha3  u5 1 0 a3 ha3 h

/-! CensusWalkLaw.setOpen(LCensusWalk;IZ[J)I -/
theorem pd_L_setOpen : (⟨"CensusWalkLaw", "setOpen", "(LCensusWalk;IZ[J)I"⟩ : MethodName).cls ≠ "java/lang/invoke/MethodHandle" ∧ (⟨"CensusWalkLaw", "setOpen", "(LCensusWalk;IZ[J)I"⟩ : MethodName).cls ≠ "java/lang/invoke/VarHandle" ∧ (parseMethodDescriptor (⟨"CensusWalkLaw", "setOpen", "(LCensusWalk;IZ[J)I"⟩ : MethodName).desc).map (fun d => d.parameters.length) = some 4 := by decide +kernel
def wp_L_setOpen_16 (E : ms_En) (a0 : Nat) (a1 : Int32) (a2 : Int32) (a3 : Nat) (post : Int32 → ms_St → Prop)  (u : ms_St) (z0 : Int64) (z1 : Int32) (z2 : Nat) : Prop := vp_in z1 (ms_N E z2) ∧ (post 0 (ms_sJ u z2 (Int32.toNatClampNeg z1) z0))
set_option maxHeartbeats 4000000 in
set_option maxRecDepth 100000 in
theorem c_L_setOpen_16 {p : Program} {l : Launch} {e : Env} {s : State} {m : MethodId} {args : Array Value} {below : List Frame} {meth : Method} {c : Code} {G : va_G} {cy : Nat → ClassId} {A : Nat → Prop} {L : Nat → Nat} {E : ms_En} (C : ms_Cx p m c cL_setOpen 5 s args (Cond.codeWith ⟨"CensusWalkLaw", "setOpen", "(LCensusWalk;IZ[J)I"⟩ method_25_code 5 (some .int) [(0, 17, 20, 19)]) "CensusWalkLaw" G cy A) (hr : meth.sig.returnType = (some .int)) (hlocks : meth.locks = false) (htab : c.exceptionTable.toList = tableOf [(0, 17, 20, 19)]) (hl9 : l.stackTraces = false) (hE : ms_WT E) {a0 : Nat} {a1 : Int32} {a2 : Int32} {a3 : Nat} {post : Int32 → ms_St → Prop}  (ha0 : ms_is E a0 10) (ha3 : ms_is E a3 14)  (u : ms_St) (z0 : Int64) (z1 : Int32) (z2 : Nat) (k_z2 : ms_is E z2 14) (h : wp_L_setOpen_16 E a0 a1 a2 a3 post u z0 z1 z2) : ms_At p l e ({ frames := 8, cells := 1, slots := 6, locals := 164 } : Room) s m args below meth c 5 G cy A L 1 6 (ms_QI below args s G cy L E A post 1 6) E u 16 [] [.long z0, .int z1, .ref (L z2)] := by
  unfold wp_L_setOpen_16 at h
  obtain ⟨q16, h⟩ := h
  refine a_last C dL_setOpen_16 k_z2 rfl q16 rfl ?_
  refine a_goto (tgt := 24) C dL_setOpen_17 (by decide) ?_
  refine a_iconst (v := 0) C dL_setOpen_24 (by decide) rfl ?_
  exact a_iret C dL_setOpen_25 hr hlocks (Nat.le_of_ble_eq_true rfl) (Nat.le_of_ble_eq_true rfl) h
def wp_L_setOpen (E : ms_En) (u : ms_St) (a0 : Nat) (a1 : Int32) (a2 : Int32) (a3 : Nat) (post : Int32 → ms_St → Prop) : Prop := wp_X10_setOpen E u a0 a1 a2 (fun r5 u5 => (r5 = 0 → wp_L_setOpen_16 E a0 a1 a2 a3 post u5 0 0 a3) ∧ (¬ r5 = 0 → wp_L_setOpen_16 E a0 a1 a2 a3 post u5 1 0 a3)) (fun X9 u5x => (X9 = "java/lang/IndexOutOfBoundsException" ∧ post 1 u5x))
set_option maxHeartbeats 4000000 in
set_option maxRecDepth 100000 in
theorem c_L_setOpen (l : Launch) (G : va_G) (cy : Nat → ClassId) (L : Nat → Nat) (E : ms_En) (hE : ms_WT E) (hl9 : l.stackTraces = false) (u : ms_St) (a0 : Nat) (a1 : Int32) (a2 : Int32) (a3 : Nat) (ha0 : ms_is E a0 10) (ha3 : ms_is E a3 14) (post : Int32 → ms_St → Prop) (h : wp_L_setOpen E u a0 a1 a2 a3 post) : ms_MetI l ⟨"CensusWalkLaw", "setOpen", "(LCensusWalk;IZ[J)I"⟩ (Cond.codeWith ⟨"CensusWalkLaw", "setOpen", "(LCensusWalk;IZ[J)I"⟩ method_25_code 5 (some .int) [(0, 17, 20, 19)] :: lw_g) ({ frames := 8, cells := 1, slots := 6, locals := 164 } : Room) G cy L E [.ref (L a0), .int a1, .int a2, .ref (L a3)] u post 1 6 := by
  refine ms_enterWI (lv := [(0, .ref (L a0)), (1, .int a1), (2, .int a2), (3, .ref (L a3))]) (by decide) (Nat.le_of_ble_eq_true rfl) rfl ?_
  intro p e s m args below meth c A C hr hlocks htab
  unfold wp_L_setOpen at h
  refine a_aload_n C dL_setOpen_0 rfl 3 rfl rfl ?_
  refine a_iconst (v := 0) C dL_setOpen_1 (by decide) rfl ?_
  refine a_aload_n C dL_setOpen_2 rfl 0 rfl rfl ?_
  refine a_iload_n C dL_setOpen_3 rfl 1 rfl rfl ?_
  refine a_iload_n C dL_setOpen_4 rfl 2 rfl rfl ?_
  refine a_ycallI C (c_X10_setOpen l G cy L E hE hl9 u a0 a1 a2 ha0 _ _ h) ha0 rfl (by decide) kw_5_210 kw_5_211 kw_5_212 kw_1_1 kw_5_213 rfl rfl pd_X10_setOpen ⟨(Nat.le_of_ble_eq_true rfl), (Nat.le_of_ble_eq_true rfl)⟩ dL_setOpen_5 rfl (Nat.le_of_ble_eq_true rfl) ⟨(Nat.le_of_ble_eq_true rfl), (Nat.le_of_ble_eq_true rfl)⟩ rfl (fun X9 u5x h => ?_) (fun r5 u5 h => ?_)
  · obtain ⟨rfl, h⟩ := h
    refine a_catch C [] ⟨0, 17, 20, 19⟩ [] (htab.trans rfl) (fun z hz => absurd hz List.not_mem_nil) (by decide) (by decide) kw_4_147 (List.mem_of_getElem? (i := 1) rfl) (fun q9 => ?_)
    refine a_astore (lv' := [(0, .ref (L a0)), (1, .int a1), (2, .int a2), (3, .ref (L a3)), (4, .ref q9)]) C dL_setOpen_20 (by decide) [1, 2, 3, 4, 0] rfl rfl ?_
    refine a_iconst (v := 1) C dL_setOpen_22 (by decide) rfl ?_
    exact a_iret C dL_setOpen_23 hr hlocks (Nat.le_of_ble_eq_true rfl) (Nat.le_of_ble_eq_true rfl) h
  · refine a_if_eq (tgt := 15) C dL_setOpen_8 (by decide) rfl (fun hc => ?_) (fun hc => ?_)
    · replace h := h.1 hc
      refine a_lconst (v := 0) C dL_setOpen_15 (by decide) rfl ?_
      refine a_wid (k := 1) (n := 6) (Nat.le_of_ble_eq_true rfl) (Nat.le_of_ble_eq_true rfl) ?_
      refine a_sub (lv' := []) [] rfl ?_
      exact c_L_setOpen_16 C hr hlocks htab hl9 hE ha0 ha3  u5 0 0 a3 ha3 h
    · replace h := h.2 hc
      refine a_lconst (v := 1) C dL_setOpen_11 (by decide) rfl ?_
      refine a_goto (tgt := 16) C dL_setOpen_12 (by decide) ?_
      refine a_wid (k := 1) (n := 6) (Nat.le_of_ble_eq_true rfl) (Nat.le_of_ble_eq_true rfl) ?_
      refine a_sub (lv' := []) [] rfl ?_
      exact c_L_setOpen_16 C hr hlocks htab hl9 hE ha0 ha3  u5 1 0 a3 ha3 h
