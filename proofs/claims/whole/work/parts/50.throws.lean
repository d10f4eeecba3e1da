/-! CensusWalk.load(I)I -/
theorem pd_X10_load : (⟨"CensusWalk", "load", "(I)I"⟩ : MethodName).cls = "CensusWalk" ∧ (⟨"CensusWalk", "load", "(I)I"⟩ : MethodName).cls ≠ "java/lang/invoke/MethodHandle" ∧ (⟨"CensusWalk", "load", "(I)I"⟩ : MethodName).cls ≠ "java/lang/invoke/VarHandle" ∧ (parseMethodDescriptor (⟨"CensusWalk", "load", "(I)I"⟩ : MethodName).desc).map (fun d => d.parameters.length) = some 1 := by decide +kernel
def wp_X10_load_12 (E : ms_En) (o : Nat) (a1 : Int32) (post : Int32 → ms_St → Prop) (px : String → ms_St → Prop)  (u : ms_St)  : Prop := px "java/lang/IllegalArgumentException" u
set_option maxHeartbeats 4000000 in
set_option maxRecDepth 100000 in
theorem c_X10_load_12 {p : Program} {l : Launch} {e : Env} {s : State} {m : MethodId} {args : Array Value} {below : List Frame} {meth : Method} {c : Code} {G : va_G} {cy : Nat → ClassId} {A : Nat → Prop} {L : Nat → Nat} {E : ms_En} (C : ms_Cx p m c cX10_load 3 s args (Cond.code ⟨"CensusWalk", "load", "(I)I"⟩ prog_1_method_3_code 3 (some .int)) "CensusWalk" G cy A) (hr : meth.sig.returnType = (some .int)) (hlocks : meth.locks = false) (hnx : ∀ x ∈ c.exceptionTable.toList, False) (hl9 : l.stackTraces = false) (hE : ms_WT E) {o : Nat} {a1 : Int32} {post : Int32 → ms_St → Prop} {px : String → ms_St → Prop}  (ho : ms_is E o 10)  (u : ms_St)   (h : wp_X10_load_12 E o a1 post px u ) : ms_At p l e ({ frames := 47, cells := 1, slots := 6, locals := 2507 } : Room) s m args below meth c 3 G cy A L 0 0 (ms_QXI below args s G cy L E A post px 1 6) E u 12 [] [] := by
  unfold wp_X10_load_12 at h
  exact a_throwI (j := 0) C hl9 hnx hlocks (by decide +kernel) rfl rfl kw_3_137 kw_1_16 (x_80 C) (by decide +kernel) dX10_load_12 dX10_load_15 dX10_load_16 dX10_load_18 dX10_load_21 (Nat.le_of_ble_eq_true rfl) (Nat.le_of_ble_eq_true rfl) (Nat.le_of_ble_eq_true rfl) (Nat.le_of_ble_eq_true rfl) (Nat.le_of_ble_eq_true rfl) (Nat.le_of_ble_eq_true rfl) h
def wp_X10_load (E : ms_En) (u : ms_St) (o : Nat) (a1 : Int32) (post : Int32 → ms_St → Prop) (px : String → ms_St → Prop) : Prop := (a1 < 0 → wp_X10_load_12 E o a1 post px u) ∧ (¬ a1 < 0 → (a1 ≤ (ms_I u o 1) → wp_X3_read E (ms_sI u o 1 0) (ms_at E o 7) (ms_at E o 0) a1 (fun r36 u36 => (r36 = 0 → wp_X10_beginChange E (ms_sI u36 o 2 (ms_I u36 (ms_at E o 7) 1)) o (fun u58 => wp_X7_copyFrom E u58 (ms_at E o 3) (ms_at E (ms_at E o 7) 0) (fun u72 => post (ms_I u72 (ms_at E (ms_at E o 3) 4) 0) u72))) ∧ (¬ r36 = 0 → post r36 (ms_sI u36 o 2 (ms_I u36 (ms_at E o 7) 1))))) ∧ (¬ a1 ≤ (ms_I u o 1) → wp_X10_load_12 E o a1 post px u))
set_option maxHeartbeats 4000000 in
set_option maxRecDepth 100000 in
theorem c_X10_load (l : Launch) (G : va_G) (cy : Nat → ClassId) (L : Nat → Nat) (E : ms_En) (hE : ms_WT E) (hl9 : l.stackTraces = false) (u : ms_St) (o : Nat) (a1 : Int32) (ho : ms_is E o 10) (post : Int32 → ms_St → Prop) (px : String → ms_St → Prop) (h : wp_X10_load E u o a1 post px) : ms_XI l ⟨"CensusWalk", "load", "(I)I"⟩ (Cond.code ⟨"CensusWalk", "load", "(I)I"⟩ prog_1_method_3_code 3 (some .int) :: lw_g) ({ frames := 47, cells := 1, slots := 6, locals := 2507 } : Room) G cy L E [.ref (L o), .int a1] u post px 1 6 := by
  refine ms_enterXI (lv := [(0, .ref (L o)), (1, .int a1)]) (by decide) (Nat.le_of_ble_eq_true rfl) rfl ?_
  intro p e s m args below meth c A C hr hlocks hnx
  unfold wp_X10_load at h
  refine a_iload_n C dX10_load_0 rfl 1 rfl rfl ?_
  refine a_if_lt (tgt := 12) C dX10_load_1 (by decide) rfl (fun hc => ?_) (fun hc => ?_)
  · replace h := h.1 hc
    refine a_wid (k := 0) (n := 0) (Nat.le_of_ble_eq_true rfl) (Nat.le_of_ble_eq_true rfl) ?_
    refine a_sub (lv' := []) [] rfl ?_
    exact c_X10_load_12 C hr hlocks hnx hl9 hE ho  u  h
  · replace h := h.2 hc
    refine a_iload_n C dX10_load_4 rfl 1 rfl rfl ?_
    refine a_aload_n C dX10_load_5 rfl 0 rfl rfl ?_
    refine g_10_1 C dX10_load_6 ho kw_2_151 rfl ?_
    refine a_icmp_le (tgt := 22) C dX10_load_9 (by decide) rfl (fun hc => ?_) (fun hc => ?_)
    · replace h := h.1 hc
      refine a_aload_n C dX10_load_22 rfl 0 rfl rfl ?_
      refine a_iconst (v := 0) C dX10_load_23 (by decide) rfl ?_
      refine s_10_1 C dX10_load_24 ho kw_2_151 rfl ?_
      refine a_aload_n C dX10_load_27 rfl 0 rfl rfl ?_
      refine g_10_7 C hE dX10_load_28 ho kw_2_157 rfl ?_
      have k28 : ms_is E (ms_at E o 7) 3 := ms_wt hE ho rfl (by decide)
      refine a_aload_n C dX10_load_31 rfl 0 rfl rfl ?_
      refine g_10_0 C hE dX10_load_32 ho kw_2_150 rfl ?_
      have k32 : ms_is E (ms_at E o 0) 12 := ms_wt hE ho rfl (by decide)
      have n32 : ms_N E (ms_at E o 0) = 900 := ms_wl hE ho (by decide) (by decide) rfl
      refine a_iload_n C dX10_load_35 rfl 1 rfl rfl ?_
      refine a_callVI C (c_X3_read l G cy L E hE (ms_sI u o 1 0) (ms_at E o 7) (ms_at E o 0) a1 k28 k32 _ h) k28 rfl (by decide) kw_3_204 kw_3_205 kw_3_206 kw_1_6 kw_3_207 rfl rfl pd_X3_read ⟨(Nat.le_of_ble_eq_true rfl), (Nat.le_of_ble_eq_true rfl)⟩ dX10_load_36 rfl (Nat.le_of_ble_eq_true rfl) ⟨(Nat.le_of_ble_eq_true rfl), (Nat.le_of_ble_eq_true rfl)⟩ rfl (fun r36 u36 h => ?_)
      refine a_istore_n (lv' := [(0, .ref (L o)), (1, .int a1), (2, .int r36)]) C dX10_load_39 rfl (by decide) [1, 2, 0] rfl rfl ?_
      refine a_aload_n C dX10_load_40 rfl 0 rfl rfl ?_
      refine a_aload_n C dX10_load_41 rfl 0 rfl rfl ?_
      refine g_10_7 C hE dX10_load_42 ho kw_2_157 rfl ?_
      refine g_3_1 C dX10_load_45 k28 kw_2_19 rfl ?_
      refine s_10_2 C dX10_load_48 ho kw_2_152 rfl ?_
      refine a_iload_n C dX10_load_51 rfl 2 rfl rfl ?_
      refine a_if_eq (tgt := 57) C dX10_load_52 (by decide) rfl (fun hc => ?_) (fun hc => ?_)
      · replace h := h.1 hc
        refine a_aload_n C dX10_load_57 rfl 0 rfl rfl ?_
        refine a_callVV C (c_X10_beginChange l G cy L E hE (ms_sI u36 o 2 (ms_I u36 (ms_at E o 7) 1)) o ho _ h) ho rfl (by decide) kw_4_140 kw_4_142 kp_24 kw_1_1 kw_4_143 rfl rfl pd_X10_beginChange ⟨(Nat.le_of_ble_eq_true rfl), (Nat.le_of_ble_eq_true rfl)⟩ dX10_load_58 rfl (Nat.le_of_ble_eq_true rfl) ⟨(Nat.le_of_ble_eq_true rfl), (Nat.le_of_ble_eq_true rfl)⟩ rfl (fun u58 h => ?_)
        refine a_aload_n C dX10_load_61 rfl 0 rfl rfl ?_
        refine g_10_3 C hE dX10_load_62 ho kw_2_153 rfl ?_
        have k62 : ms_is E (ms_at E o 3) 7 := ms_wt hE ho rfl (by decide)
        refine a_aload_n C dX10_load_65 rfl 0 rfl rfl ?_
        refine g_10_7 C hE dX10_load_66 ho kw_2_157 rfl ?_
        refine g_3_0 C hE dX10_load_69 k28 kw_2_17 rfl ?_
        have k69 : ms_is E (ms_at E (ms_at E o 7) 0) 7 := ms_wt hE k28 rfl (by decide)
        refine a_callVV C (c_X7_copyFrom l G cy L E hE u58 (ms_at E o 3) (ms_at E (ms_at E o 7) 0) k62 k69 _ h) k62 rfl (by decide) kw_3_98 kw_3_99 kw_3_100 kw_1_2 kw_3_101 rfl rfl pd_X7_copyFrom ⟨(Nat.le_of_ble_eq_true rfl), (Nat.le_of_ble_eq_true rfl)⟩ dX10_load_72 rfl (Nat.le_of_ble_eq_true rfl) ⟨(Nat.le_of_ble_eq_true rfl), (Nat.le_of_ble_eq_true rfl)⟩ rfl (fun u72 h => ?_)
        refine a_aload_n C dX10_load_75 rfl 0 rfl rfl ?_
        refine g_10_3 C hE dX10_load_76 ho kw_2_153 rfl ?_
        refine g_7_4 C hE dX10_load_79 k62 kw_1_181 rfl ?_
        have k79 : ms_is E (ms_at E (ms_at E o 3) 4) 0 := ms_wt hE k62 rfl (by decide)
        refine g_0_0 C dX10_load_82 k79 kw_1_84 rfl ?_
        refine a_retXI ?_
        exact a_iret C dX10_load_85 hr hlocks (Nat.le_of_ble_eq_true rfl) (Nat.le_of_ble_eq_true rfl) h
      · replace h := h.2 hc
        refine a_iload_n C dX10_load_55 rfl 2 rfl rfl ?_
        refine a_retXI ?_
        exact a_iret C dX10_load_56 hr hlocks (Nat.le_of_ble_eq_true rfl) (Nat.le_of_ble_eq_true rfl) h
    · replace h := h.2 hc
      refine a_wid (k := 0) (n := 0) (Nat.le_of_ble_eq_true rfl) (Nat.le_of_ble_eq_true rfl) ?_
      refine a_sub (lv' := []) [] rfl ?_
      exact c_X10_load_12 C hr hlocks hnx hl9 hE ho  u  h

/-! CensusWalk.division(I)I -/
theorem pd_X10_division : (⟨"CensusWalk", "division", "(I)I"⟩ : MethodName).cls = "CensusWalk" ∧ (⟨"CensusWalk", "division", "(I)I"⟩ : MethodName).cls ≠ "java/lang/invoke/MethodHandle" ∧ (⟨"CensusWalk", "division", "(I)I"⟩ : MethodName).cls ≠ "java/lang/invoke/VarHandle" ∧ (parseMethodDescriptor (⟨"CensusWalk", "division", "(I)I"⟩ : MethodName).desc).map (fun d => d.parameters.length) = some 1 := by decide +kernel
def wp_X10_division (E : ms_En) (u : ms_St) (o : Nat) (a1 : Int32) (post : Int32 → ms_St → Prop) (px : String → ms_St → Prop) : Prop := wp_X10_checkSet E u o a1 (fun u2 => wp_X10_refreshRoutes E u2 o (fun u6 => wp_X2_divide E u6 (ms_at E o 10) (ms_at E o 3) (ms_at E o 8) a1 (fun u22 => post (ms_I u22 (ms_at E o 10) 2) u22))) px
set_option maxHeartbeats 4000000 in
set_option maxRecDepth 100000 in
theorem c_X10_division (l : Launch) (G : va_G) (cy : Nat → ClassId) (L : Nat → Nat) (E : ms_En) (hE : ms_WT E) (hl9 : l.stackTraces = false) (u : ms_St) (o : Nat) (a1 : Int32) (ho : ms_is E o 10) (post : Int32 → ms_St → Prop) (px : String → ms_St → Prop) (h : wp_X10_division E u o a1 post px) : ms_XI l ⟨"CensusWalk", "division", "(I)I"⟩ (Cond.code ⟨"CensusWalk", "division", "(I)I"⟩ prog_1_method_27_code 2 (some .int) :: lw_g) ({ frames := 58, cells := 1, slots := 6, locals := 3207 } : Room) G cy L E [.ref (L o), .int a1] u post px 1 6 := by
  refine ms_enterXI (lv := [(0, .ref (L o)), (1, .int a1)]) (by decide) (Nat.le_of_ble_eq_true rfl) rfl ?_
  intro p e s m args below meth c A C hr hlocks hnx
  unfold wp_X10_division at h
  refine a_aload_n C dX10_division_0 rfl 0 rfl rfl ?_
  refine a_iload_n C dX10_division_1 rfl 1 rfl rfl ?_
  refine a_xcallVI C hnx hlocks (c_X10_checkSet l G cy L E hE hl9 u o a1 ho _ _ h) ho rfl (by decide) kw_5_48 kw_5_50 kp_29 kw_1_1 kw_5_51 rfl rfl pd_X10_checkSet ⟨(Nat.le_of_ble_eq_true rfl), (Nat.le_of_ble_eq_true rfl)⟩ dX10_division_2 rfl (Nat.le_of_ble_eq_true rfl) ⟨(Nat.le_of_ble_eq_true rfl), (Nat.le_of_ble_eq_true rfl)⟩ ⟨(Nat.le_of_ble_eq_true rfl), (Nat.le_of_ble_eq_true rfl)⟩ rfl (fun u2 h => ?_)
  refine a_aload_n C dX10_division_5 rfl 0 rfl rfl ?_
  refine a_callVV C (c_X10_refreshRoutes l G cy L E hE u2 o ho _ h) ho rfl (by decide) kw_2_226 kw_2_228 kp_2 kw_1_1 kw_2_229 rfl rfl pd_X10_refreshRoutes ⟨(Nat.le_of_ble_eq_true rfl), (Nat.le_of_ble_eq_true rfl)⟩ dX10_division_6 rfl (Nat.le_of_ble_eq_true rfl) ⟨(Nat.le_of_ble_eq_true rfl), (Nat.le_of_ble_eq_true rfl)⟩ rfl (fun u6 h => ?_)
  refine a_aload_n C dX10_division_9 rfl 0 rfl rfl ?_
  refine g_10_10 C hE dX10_division_10 ho kw_2_160 rfl ?_
  have k10 : ms_is E (ms_at E o 10) 2 := ms_wt hE ho rfl (by decide)
  refine a_aload_n C dX10_division_13 rfl 0 rfl rfl ?_
  refine g_10_3 C hE dX10_division_14 ho kw_2_153 rfl ?_
  have k14 : ms_is E (ms_at E o 3) 7 := ms_wt hE ho rfl (by decide)
  refine a_aload_n C dX10_division_17 rfl 0 rfl rfl ?_
  refine g_10_8 C hE dX10_division_18 ho kw_2_158 rfl ?_
  have k18 : ms_is E (ms_at E o 8) 1 := ms_wt hE ho rfl (by decide)
  refine a_iload_n C dX10_division_21 rfl 1 rfl rfl ?_
  refine a_callVV C (c_X2_divide l G cy L E hE u6 (ms_at E o 10) (ms_at E o 3) (ms_at E o 8) a1 k10 k14 k18 _ h) k10 rfl (by decide) kw_5_136 kw_5_137 kw_5_138 kw_1_11 kw_5_139 rfl rfl pd_X2_divide ⟨(Nat.le_of_ble_eq_true rfl), (Nat.le_of_ble_eq_true rfl)⟩ dX10_division_22 rfl (Nat.le_of_ble_eq_true rfl) ⟨(Nat.le_of_ble_eq_true rfl), (Nat.le_of_ble_eq_true rfl)⟩ rfl (fun u22 h => ?_)
  refine a_aload_n C dX10_division_25 rfl 0 rfl rfl ?_
  refine g_10_10 C hE dX10_division_26 ho kw_2_160 rfl ?_
  refine g_2_2 C dX10_division_29 k10 kw_2_103 rfl ?_
  refine a_retXI ?_
  exact a_iret C dX10_division_32 hr hlocks (Nat.le_of_ble_eq_true rfl) (Nat.le_of_ble_eq_true rfl) h

/-! CensusWalk.walkerOf(II)I -/
theorem pd_X10_walkerOf : (⟨"CensusWalk", "walkerOf", "(II)I"⟩ : MethodName).cls = "CensusWalk" ∧ (⟨"CensusWalk", "walkerOf", "(II)I"⟩ : MethodName).cls ≠ "java/lang/invoke/MethodHandle" ∧ (⟨"CensusWalk", "walkerOf", "(II)I"⟩ : MethodName).cls ≠ "java/lang/invoke/VarHandle" ∧ (parseMethodDescriptor (⟨"CensusWalk", "walkerOf", "(II)I"⟩ : MethodName).desc).map (fun d => d.parameters.length) = some 2 := by decide +kernel
def wp_X10_walkerOf (E : ms_En) (u : ms_St) (o : Nat) (a1 : Int32) (a2 : Int32) (post : Int32 → ms_St → Prop) (px : String → ms_St → Prop) : Prop := wp_X10_checkHouse E u o a2 (fun u2 => wp_X10_checkSet E u2 o a1 (fun u7 => wp_X10_contains E u7 a1 a2 (fun r12 u12 => (r12 = 0 → post (-1) u12) ∧ (¬ r12 = 0 → wp_X10_refreshRoutes E u12 o (fun u21 => wp_X2_divide E u21 (ms_at E o 10) (ms_at E o 3) (ms_at E o 8) a1 (fun u37 => wp_X2_chosenWalker E u37 (ms_at E o 10) a2 (fun r45 u45 => post r45 u45)))))) px) px
set_option maxHeartbeats 4000000 in
set_option maxRecDepth 100000 in
theorem c_X10_walkerOf (l : Launch) (G : va_G) (cy : Nat → ClassId) (L : Nat → Nat) (E : ms_En) (hE : ms_WT E) (hl9 : l.stackTraces = false) (u : ms_St) (o : Nat) (a1 : Int32) (a2 : Int32) (ho : ms_is E o 10) (post : Int32 → ms_St → Prop) (px : String → ms_St → Prop) (h : wp_X10_walkerOf E u o a1 a2 post px) : ms_XI l ⟨"CensusWalk", "walkerOf", "(II)I"⟩ (Cond.code ⟨"CensusWalk", "walkerOf", "(II)I"⟩ prog_1_method_28_code 3 (some .int) :: lw_g) ({ frames := 58, cells := 2, slots := 12, locals := 3207 } : Room) G cy L E [.ref (L o), .int a1, .int a2] u post px 2 12 := by
  refine ms_enterXI (lv := [(0, .ref (L o)), (1, .int a1), (2, .int a2)]) (by decide) (Nat.le_of_ble_eq_true rfl) rfl ?_
  intro p e s m args below meth c A C hr hlocks hnx
  unfold wp_X10_walkerOf at h
  refine a_aload_n C dX10_walkerOf_0 rfl 0 rfl rfl ?_
  refine a_iload_n C dX10_walkerOf_1 rfl 2 rfl rfl ?_
  refine a_xcallVI C hnx hlocks (c_X10_checkHouse l G cy L E hE hl9 u o a2 ho _ _ h) ho rfl (by decide) kw_4_152 kw_4_154 kp_25 kw_1_1 kw_4_155 rfl rfl pd_X10_checkHouse ⟨(Nat.le_of_ble_eq_true rfl), (Nat.le_of_ble_eq_true rfl)⟩ dX10_walkerOf_2 rfl (Nat.le_of_ble_eq_true rfl) ⟨(Nat.le_of_ble_eq_true rfl), (Nat.le_of_ble_eq_true rfl)⟩ ⟨(Nat.le_of_ble_eq_true rfl), (Nat.le_of_ble_eq_true rfl)⟩ rfl (fun u2 h => ?_)
  refine a_aload_n C dX10_walkerOf_5 rfl 0 rfl rfl ?_
  refine a_iload_n C dX10_walkerOf_6 rfl 1 rfl rfl ?_
  refine a_xcallVI C hnx hlocks (c_X10_checkSet l G cy L E hE hl9 u2 o a1 ho _ _ h) ho rfl (by decide) kw_5_48 kw_5_50 kp_29 kw_1_1 kw_5_51 rfl rfl pd_X10_checkSet ⟨(Nat.le_of_ble_eq_true rfl), (Nat.le_of_ble_eq_true rfl)⟩ dX10_walkerOf_7 rfl (Nat.le_of_ble_eq_true rfl) ⟨(Nat.le_of_ble_eq_true rfl), (Nat.le_of_ble_eq_true rfl)⟩ ⟨(Nat.le_of_ble_eq_true rfl), (Nat.le_of_ble_eq_true rfl)⟩ rfl (fun u7 h => ?_)
  refine a_iload_n C dX10_walkerOf_10 rfl 1 rfl rfl ?_
  refine a_iload_n C dX10_walkerOf_11 rfl 2 rfl rfl ?_
  refine a_callSI C (c_X10_contains l G cy L E hE u7 a1 a2  _ h) kw_3_93 kw_3_73 kw_1_1 kw_3_74 rfl rfl pd_X10_contains ⟨(Nat.le_of_ble_eq_true rfl), (Nat.le_of_ble_eq_true rfl)⟩ dX10_walkerOf_12 rfl (Nat.le_of_ble_eq_true rfl) ⟨(Nat.le_of_ble_eq_true rfl), (Nat.le_of_ble_eq_true rfl)⟩ rfl (fun r12 u12 h => ?_)
  refine a_if_ne (tgt := 20) C dX10_walkerOf_15 (by decide) rfl (fun hc => ?_) (fun hc => ?_)
  · replace h := h.2 hc
    refine a_aload_n C dX10_walkerOf_20 rfl 0 rfl rfl ?_
    refine a_callVV C (c_X10_refreshRoutes l G cy L E hE u12 o ho _ h) ho rfl (by decide) kw_2_226 kw_2_228 kp_2 kw_1_1 kw_2_229 rfl rfl pd_X10_refreshRoutes ⟨(Nat.le_of_ble_eq_true rfl), (Nat.le_of_ble_eq_true rfl)⟩ dX10_walkerOf_21 rfl (Nat.le_of_ble_eq_true rfl) ⟨(Nat.le_of_ble_eq_true rfl), (Nat.le_of_ble_eq_true rfl)⟩ rfl (fun u21 h => ?_)
    refine a_aload_n C dX10_walkerOf_24 rfl 0 rfl rfl ?_
    refine g_10_10 C hE dX10_walkerOf_25 ho kw_2_160 rfl ?_
    have k25 : ms_is E (ms_at E o 10) 2 := ms_wt hE ho rfl (by decide)
    refine a_aload_n C dX10_walkerOf_28 rfl 0 rfl rfl ?_
    refine g_10_3 C hE dX10_walkerOf_29 ho kw_2_153 rfl ?_
    have k29 : ms_is E (ms_at E o 3) 7 := ms_wt hE ho rfl (by decide)
    refine a_aload_n C dX10_walkerOf_32 rfl 0 rfl rfl ?_
    refine g_10_8 C hE dX10_walkerOf_33 ho kw_2_158 rfl ?_
    have k33 : ms_is E (ms_at E o 8) 1 := ms_wt hE ho rfl (by decide)
    refine a_iload_n C dX10_walkerOf_36 rfl 1 rfl rfl ?_
    refine a_callVV C (c_X2_divide l G cy L E hE u21 (ms_at E o 10) (ms_at E o 3) (ms_at E o 8) a1 k25 k29 k33 _ h) k25 rfl (by decide) kw_5_136 kw_5_137 kw_5_138 kw_1_11 kw_5_139 rfl rfl pd_X2_divide ⟨(Nat.le_of_ble_eq_true rfl), (Nat.le_of_ble_eq_true rfl)⟩ dX10_walkerOf_37 rfl (Nat.le_of_ble_eq_true rfl) ⟨(Nat.le_of_ble_eq_true rfl), (Nat.le_of_ble_eq_true rfl)⟩ rfl (fun u37 h => ?_)
    refine a_aload_n C dX10_walkerOf_40 rfl 0 rfl rfl ?_
    refine g_10_10 C hE dX10_walkerOf_41 ho kw_2_160 rfl ?_
    refine a_iload_n C dX10_walkerOf_44 rfl 2 rfl rfl ?_
    refine a_callVI C (c_X2_chosenWalker l G cy L E hE u37 (ms_at E o 10) a2 k25 _ h) k25 rfl (by decide) kw_5_156 kw_5_157 kw_5_158 kw_1_11 kw_5_159 rfl rfl pd_X2_chosenWalker ⟨(Nat.le_of_ble_eq_true rfl), (Nat.le_of_ble_eq_true rfl)⟩ dX10_walkerOf_45 rfl (Nat.le_of_ble_eq_true rfl) ⟨(Nat.le_of_ble_eq_true rfl), (Nat.le_of_ble_eq_true rfl)⟩ rfl (fun r45 u45 h => ?_)
    refine a_retXI ?_
    exact a_iret C dX10_walkerOf_48 hr hlocks (Nat.le_of_ble_eq_true rfl) (Nat.le_of_ble_eq_true rfl) h
  · replace h := h.1 hc
    refine a_iconst (v := (-1)) C dX10_walkerOf_18 (by decide) rfl ?_
    refine a_retXI ?_
    exact a_iret C dX10_walkerOf_19 hr hlocks (Nat.le_of_ble_eq_true rfl) (Nat.le_of_ble_eq_true rfl) h
