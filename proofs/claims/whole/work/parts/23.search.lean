/-! CensusWalk$Search.earlier(II)I -/
theorem pd_X2_earlier : (⟨"CensusWalk$Search", "earlier", "(II)I"⟩ : MethodName).cls ≠ "java/lang/invoke/MethodHandle" ∧ (⟨"CensusWalk$Search", "earlier", "(II)I"⟩ : MethodName).cls ≠ "java/lang/invoke/VarHandle" ∧ (parseMethodDescriptor (⟨"CensusWalk$Search", "earlier", "(II)I"⟩ : MethodName).desc).map (fun d => d.parameters.length) = some 2 := by decide +kernel
def wp_X2_earlier_21 (E : ms_En) (a0 : Int32) (a1 : Int32) (post : Int32 → ms_St → Prop)  (u : ms_St) (z0 : Int32) : Prop := post z0 u
set_option maxHeartbeats 4000000 in
set_option maxRecDepth 100000 in
theorem c_X2_earlier_21 {p : Program} {l : Launch} {e : Env} {s : State} {m : MethodId} {args : Array Value} {below : List Frame} {meth : Method} {c : Code} {G : va_G} {cy : Nat → ClassId} {A : Nat → Prop} {L : Nat → Nat} {E : ms_En} (C : ms_Cx p m c cX2_earlier 2 s args (Cond.code ⟨"CensusWalk$Search", "earlier", "(II)I"⟩ prog_4_method_11_code 2 (some .int)) "CensusWalk$Search" G cy A) (hr : meth.sig.returnType = (some .int)) (hlocks : meth.locks = false) (hE : ms_WT E) {a0 : Int32} {a1 : Int32} {post : Int32 → ms_St → Prop}    (u : ms_St) (z0 : Int32)  (h : wp_X2_earlier_21 E a0 a1 post u z0) : ms_At p l e ({ frames := 1, cells := 0, slots := 0, locals := 30 } : Room) s m args below meth c 2 G cy A L 0 0 (ms_QI below args s G cy L E A post 0 0) E u 21 [] [.int z0] := by
  unfold wp_X2_earlier_21 at h
  exact a_iret C dX2_earlier_21 hr hlocks (Nat.le_of_ble_eq_true rfl) (Nat.le_of_ble_eq_true rfl) h
def wp_X2_earlier (E : ms_En) (u : ms_St) (a0 : Int32) (a1 : Int32) (post : Int32 → ms_St → Prop) : Prop := (a0 = (-1) → post a1 u) ∧ (¬ a0 = (-1) → (a1 = (-1) → wp_X2_earlier_21 E a0 a1 post u a0) ∧ (¬ a1 = (-1) → wp_X2_earlier_21 E a0 a1 post u (if a1 < a0 then a1 else a0)))
set_option maxHeartbeats 4000000 in
set_option maxRecDepth 100000 in
theorem c_X2_earlier (l : Launch) (G : va_G) (cy : Nat → ClassId) (L : Nat → Nat) (E : ms_En) (hE : ms_WT E) (u : ms_St) (a0 : Int32) (a1 : Int32)  (post : Int32 → ms_St → Prop) (h : wp_X2_earlier E u a0 a1 post) : ms_MetI l ⟨"CensusWalk$Search", "earlier", "(II)I"⟩ (Cond.code ⟨"CensusWalk$Search", "earlier", "(II)I"⟩ prog_4_method_11_code 2 (some .int) :: lw_g) ({ frames := 1, cells := 0, slots := 0, locals := 30 } : Room) G cy L E [.int a0, .int a1] u post 0 0 := by
  refine ms_enterI (lv := [(0, .int a0), (1, .int a1)]) (by decide) (Nat.le_of_ble_eq_true rfl) rfl ?_
  intro p e s m args below meth c A C hr hlocks
  unfold wp_X2_earlier at h
  refine a_iload_n C dX2_earlier_0 rfl 0 rfl rfl ?_
  refine a_iconst (v := (-1)) C dX2_earlier_1 (by decide) rfl ?_
  refine a_icmp_ne (tgt := 7) C dX2_earlier_2 (by decide) rfl (fun hc => ?_) (fun hc => ?_)
  · replace h := h.2 hc
    refine a_iload_n C dX2_earlier_7 rfl 1 rfl rfl ?_
    refine a_iconst (v := (-1)) C dX2_earlier_8 (by decide) rfl ?_
    refine a_icmp_ne (tgt := 16) C dX2_earlier_9 (by decide) rfl (fun hc => ?_) (fun hc => ?_)
    · replace h := h.2 hc
      refine a_iload_n C dX2_earlier_16 rfl 0 rfl rfl ?_
      refine a_iload_n C dX2_earlier_17 rfl 1 rfl rfl ?_
      refine a_mmin C dX2_earlier_18 kw_5_92 kw_3_47 kw_1_17 kw_3_48 (Nat.le_of_ble_eq_true rfl) (Nat.le_of_ble_eq_true rfl) (Nat.le_of_ble_eq_true rfl) (Nat.le_of_ble_eq_true rfl) rfl ?_
      refine a_sub (lv' := []) [] rfl ?_
      exact c_X2_earlier_21 C hr hlocks hE   u (if a1 < a0 then a1 else a0)  h
    · replace h := h.1 hc
      refine a_iload_n C dX2_earlier_12 rfl 0 rfl rfl ?_
      refine a_goto (tgt := 21) C dX2_earlier_13 (by decide) ?_
      refine a_sub (lv' := []) [] rfl ?_
      exact c_X2_earlier_21 C hr hlocks hE   u a0  h
  · replace h := h.1 hc
    refine a_iload_n C dX2_earlier_5 rfl 1 rfl rfl ?_
    exact a_iret C dX2_earlier_6 hr hlocks (Nat.le_of_ble_eq_true rfl) (Nat.le_of_ble_eq_true rfl) h

/-! CensusWalk$Search.visitEnd(III)I -/
theorem pd_X2_visitEnd : (⟨"CensusWalk$Search", "visitEnd", "(III)I"⟩ : MethodName).cls = "CensusWalk$Search" ∧ (⟨"CensusWalk$Search", "visitEnd", "(III)I"⟩ : MethodName).cls ≠ "java/lang/invoke/MethodHandle" ∧ (⟨"CensusWalk$Search", "visitEnd", "(III)I"⟩ : MethodName).cls ≠ "java/lang/invoke/VarHandle" ∧ (parseMethodDescriptor (⟨"CensusWalk$Search", "visitEnd", "(III)I"⟩ : MethodName).desc).map (fun d => d.parameters.length) = some 3 := by decide +kernel
def wp_X2_visitEnd_17 (E : ms_En) (o : Nat) (a1 : Int32) (a2 : Int32) (a3 : Int32) (post : Int32 → ms_St → Prop)  (u : ms_St)  : Prop := post (-1) u
set_option maxHeartbeats 4000000 in
set_option maxRecDepth 100000 in
theorem c_X2_visitEnd_17 {p : Program} {l : Launch} {e : Env} {s : State} {m : MethodId} {args : Array Value} {below : List Frame} {meth : Method} {c : Code} {G : va_G} {cy : Nat → ClassId} {A : Nat → Prop} {L : Nat → Nat} {E : ms_En} (C : ms_Cx p m c cX2_visitEnd 4 s args (Cond.code ⟨"CensusWalk$Search", "visitEnd", "(III)I"⟩ prog_4_method_12_code 4 (some .int)) "CensusWalk$Search" G cy A) (hr : meth.sig.returnType = (some .int)) (hlocks : meth.locks = false) (hE : ms_WT E) {o : Nat} {a1 : Int32} {a2 : Int32} {a3 : Int32} {post : Int32 → ms_St → Prop}  (ho : ms_is E o 2)  (u : ms_St)   (h : wp_X2_visitEnd_17 E o a1 a2 a3 post u ) : ms_At p l e ({ frames := 1, cells := 0, slots := 0, locals := 30 } : Room) s m args below meth c 4 G cy A L 0 0 (ms_QI below args s G cy L E A post 0 0) E u 17 [] [] := by
  unfold wp_X2_visitEnd_17 at h
  refine a_iconst (v := (-1)) C dX2_visitEnd_17 (by decide) rfl ?_
  exact a_iret C dX2_visitEnd_18 hr hlocks (Nat.le_of_ble_eq_true rfl) (Nat.le_of_ble_eq_true rfl) h
def wp_X2_visitEnd (E : ms_En) (u : ms_St) (o : Nat) (a1 : Int32) (a2 : Int32) (a3 : Int32) (post : Int32 → ms_St → Prop) : Prop := (a2 = (-1) → wp_X2_visitEnd_17 E o a1 a2 a3 post u) ∧ (¬ a2 = (-1) → vp_in a1 8 ∧ (((a3 + a2) < (ms_I u (ms_at E o 5) (Int32.toNatClampNeg a1)) → vp_in a1 8 ∧ (vp_in a1 8 ∧ (post ((if (a3 + a2) < (ms_I u (ms_at E o 4) (Int32.toNatClampNeg a1)) then (ms_I u (ms_at E o 4) (Int32.toNatClampNeg a1)) else (a3 + a2)) + (ms_I u (ms_at E o 6) (Int32.toNatClampNeg a1))) u))) ∧ (¬ (a3 + a2) < (ms_I u (ms_at E o 5) (Int32.toNatClampNeg a1)) → wp_X2_visitEnd_17 E o a1 a2 a3 post u)))
set_option maxHeartbeats 4000000 in
set_option maxRecDepth 100000 in
theorem c_X2_visitEnd (l : Launch) (G : va_G) (cy : Nat → ClassId) (L : Nat → Nat) (E : ms_En) (hE : ms_WT E) (u : ms_St) (o : Nat) (a1 : Int32) (a2 : Int32) (a3 : Int32) (ho : ms_is E o 2) (post : Int32 → ms_St → Prop) (h : wp_X2_visitEnd E u o a1 a2 a3 post) : ms_MetI l ⟨"CensusWalk$Search", "visitEnd", "(III)I"⟩ (Cond.code ⟨"CensusWalk$Search", "visitEnd", "(III)I"⟩ prog_4_method_12_code 4 (some .int) :: lw_g) ({ frames := 1, cells := 0, slots := 0, locals := 30 } : Room) G cy L E [.ref (L o), .int a1, .int a2, .int a3] u post 0 0 := by
  refine ms_enterI (lv := [(0, .ref (L o)), (1, .int a1), (2, .int a2), (3, .int a3)]) (by decide) (Nat.le_of_ble_eq_true rfl) rfl ?_
  intro p e s m args below meth c A C hr hlocks
  unfold wp_X2_visitEnd at h
  refine a_iload_n C dX2_visitEnd_0 rfl 2 rfl rfl ?_
  refine a_iconst (v := (-1)) C dX2_visitEnd_1 (by decide) rfl ?_
  refine a_icmp_eq (tgt := 17) C dX2_visitEnd_2 (by decide) rfl (fun hc => ?_) (fun hc => ?_)
  · replace h := h.1 hc
    refine a_sub (lv' := []) [] rfl ?_
    exact c_X2_visitEnd_17 C hr hlocks hE ho  u  h
  · replace h := h.2 hc
    refine a_iload_n C dX2_visitEnd_5 rfl 3 rfl rfl ?_
    refine a_iload_n C dX2_visitEnd_6 rfl 2 rfl rfl ?_
    refine a_iadd C dX2_visitEnd_7 rfl ?_
    refine a_aload_n C dX2_visitEnd_8 rfl 0 rfl rfl ?_
    refine g_2_5 C hE dX2_visitEnd_9 ho kw_2_106 rfl ?_
    have k9 : ms_is E (ms_at E o 5) 13 := ms_wt hE ho rfl (by decide)
    have n9 : ms_N E (ms_at E o 5) = 8 := ms_wl hE ho (by decide) (by decide) rfl
    refine a_iload_n C dX2_visitEnd_12 rfl 1 rfl rfl ?_
    obtain ⟨q13, h⟩ := h
    refine a_iald C dX2_visitEnd_13 k9 n9 q13 rfl ?_
    refine a_icmp_lt (tgt := 19) C dX2_visitEnd_14 (by decide) rfl (fun hc => ?_) (fun hc => ?_)
    · replace h := h.1 hc
      refine a_iload_n C dX2_visitEnd_19 rfl 3 rfl rfl ?_
      refine a_iload_n C dX2_visitEnd_20 rfl 2 rfl rfl ?_
      refine a_iadd C dX2_visitEnd_21 rfl ?_
      refine a_aload_n C dX2_visitEnd_22 rfl 0 rfl rfl ?_
      refine g_2_4 C hE dX2_visitEnd_23 ho kw_2_105 rfl ?_
      have k23 : ms_is E (ms_at E o 4) 13 := ms_wt hE ho rfl (by decide)
      have n23 : ms_N E (ms_at E o 4) = 8 := ms_wl hE ho (by decide) (by decide) rfl
      refine a_iload_n C dX2_visitEnd_26 rfl 1 rfl rfl ?_
      obtain ⟨q27, h⟩ := h
      refine a_iald C dX2_visitEnd_27 k23 n23 q27 rfl ?_
      refine a_mmax C dX2_visitEnd_28 kw_5_88 kw_3_61 kw_1_17 kw_3_62 (Nat.le_of_ble_eq_true rfl) (Nat.le_of_ble_eq_true rfl) (Nat.le_of_ble_eq_true rfl) (Nat.le_of_ble_eq_true rfl) rfl ?_
      refine a_aload_n C dX2_visitEnd_31 rfl 0 rfl rfl ?_
      refine g_2_6 C hE dX2_visitEnd_32 ho kw_2_107 rfl ?_
      have k32 : ms_is E (ms_at E o 6) 13 := ms_wt hE ho rfl (by decide)
      have n32 : ms_N E (ms_at E o 6) = 8 := ms_wl hE ho (by decide) (by decide) rfl
      refine a_iload_n C dX2_visitEnd_35 rfl 1 rfl rfl ?_
      obtain ⟨q36, h⟩ := h
      refine a_iald C dX2_visitEnd_36 k32 n32 q36 rfl ?_
      refine a_iadd C dX2_visitEnd_37 rfl ?_
      exact a_iret C dX2_visitEnd_38 hr hlocks (Nat.le_of_ble_eq_true rfl) (Nat.le_of_ble_eq_true rfl) h
    · replace h := h.2 hc
      refine a_sub (lv' := []) [] rfl ?_
      exact c_X2_visitEnd_17 C hr hlocks hE ho  u  h

/-! CensusWalk$Search.wayTo(II)I -/
theorem pd_X2_wayTo : (⟨"CensusWalk$Search", "wayTo", "(II)I"⟩ : MethodName).cls = "CensusWalk$Search" ∧ (⟨"CensusWalk$Search", "wayTo", "(II)I"⟩ : MethodName).cls ≠ "java/lang/invoke/MethodHandle" ∧ (⟨"CensusWalk$Search", "wayTo", "(II)I"⟩ : MethodName).cls ≠ "java/lang/invoke/VarHandle" ∧ (parseMethodDescriptor (⟨"CensusWalk$Search", "wayTo", "(II)I"⟩ : MethodName).desc).map (fun d => d.parameters.length) = some 2 := by decide +kernel
def wp_X2_wayTo_25 (E : ms_En) (o : Nat) (a1 : Int32) (a2 : Int32) (post : Int32 → ms_St → Prop)  (u : ms_St) (z0 : Int32) : Prop := post z0 u
set_option maxHeartbeats 4000000 in
set_option maxRecDepth 100000 in
theorem c_X2_wayTo_25 {p : Program} {l : Launch} {e : Env} {s : State} {m : MethodId} {args : Array Value} {below : List Frame} {meth : Method} {c : Code} {G : va_G} {cy : Nat → ClassId} {A : Nat → Prop} {L : Nat → Nat} {E : ms_En} (C : ms_Cx p m c cX2_wayTo 3 s args (Cond.code ⟨"CensusWalk$Search", "wayTo", "(II)I"⟩ prog_4_method_13_code 3 (some .int)) "CensusWalk$Search" G cy A) (hr : meth.sig.returnType = (some .int)) (hlocks : meth.locks = false) (hE : ms_WT E) {o : Nat} {a1 : Int32} {a2 : Int32} {post : Int32 → ms_St → Prop}  (ho : ms_is E o 2)  (u : ms_St) (z0 : Int32)  (h : wp_X2_wayTo_25 E o a1 a2 post u z0) : ms_At p l e ({ frames := 0, cells := 0, slots := 0, locals := 0 } : Room) s m args below meth c 3 G cy A L 0 0 (ms_QI below args s G cy L E A post 0 0) E u 25 [] [.int z0] := by
  unfold wp_X2_wayTo_25 at h
  exact a_iret C dX2_wayTo_25 hr hlocks (Nat.le_of_ble_eq_true rfl) (Nat.le_of_ble_eq_true rfl) h
def wp_X2_wayTo (E : ms_En) (u : ms_St) (o : Nat) (a1 : Int32) (a2 : Int32) (post : Int32 → ms_St → Prop) : Prop := (a1 = (-1) → vp_in a2 8 ∧ (wp_X2_wayTo_25 E o a1 a2 post u (ms_I u (ms_at E o 8) (Int32.toNatClampNeg a2)))) ∧ (¬ a1 = (-1) → vp_in ((a1 * 8) + a2) 64 ∧ (wp_X2_wayTo_25 E o a1 a2 post u (ms_I u (ms_at E o 7) (Int32.toNatClampNeg ((a1 * 8) + a2)))))
set_option maxHeartbeats 4000000 in
set_option maxRecDepth 100000 in
theorem c_X2_wayTo (l : Launch) (G : va_G) (cy : Nat → ClassId) (L : Nat → Nat) (E : ms_En) (hE : ms_WT E) (u : ms_St) (o : Nat) (a1 : Int32) (a2 : Int32) (ho : ms_is E o 2) (post : Int32 → ms_St → Prop) (h : wp_X2_wayTo E u o a1 a2 post) : ms_MetI l ⟨"CensusWalk$Search", "wayTo", "(II)I"⟩ (Cond.code ⟨"CensusWalk$Search", "wayTo", "(II)I"⟩ prog_4_method_13_code 3 (some .int) :: lw_g) ({ frames := 0, cells := 0, slots := 0, locals := 0 } : Room) G cy L E [.ref (L o), .int a1, .int a2] u post 0 0 := by
  refine ms_enterI (lv := [(0, .ref (L o)), (1, .int a1), (2, .int a2)]) (by decide) (Nat.le_of_ble_eq_true rfl) rfl ?_
  intro p e s m args below meth c A C hr hlocks
  unfold wp_X2_wayTo at h
  refine a_iload_n C dX2_wayTo_0 rfl 1 rfl rfl ?_
  refine a_iconst (v := (-1)) C dX2_wayTo_1 (by decide) rfl ?_
  refine a_icmp_ne (tgt := 14) C dX2_wayTo_2 (by decide) rfl (fun hc => ?_) (fun hc => ?_)
  · replace h := h.2 hc
    refine a_aload_n C dX2_wayTo_14 rfl 0 rfl rfl ?_
    refine g_2_7 C hE dX2_wayTo_15 ho kw_2_108 rfl ?_
    have k15 : ms_is E (ms_at E o 7) 13 := ms_wt hE ho rfl (by decide)
    have n15 : ms_N E (ms_at E o 7) = 64 := ms_wl hE ho (by decide) (by decide) rfl
    refine a_iload_n C dX2_wayTo_18 rfl 1 rfl rfl ?_
    refine a_bipush (v := 8) C dX2_wayTo_19 (by decide) rfl ?_
    refine a_imul C dX2_wayTo_21 rfl ?_
    refine a_iload_n C dX2_wayTo_22 rfl 2 rfl rfl ?_
    refine a_iadd C dX2_wayTo_23 rfl ?_
    obtain ⟨q24, h⟩ := h
    refine a_iald C dX2_wayTo_24 k15 n15 q24 rfl ?_
    refine a_sub (lv' := []) [] rfl ?_
    exact c_X2_wayTo_25 C hr hlocks hE ho  u (ms_I u (ms_at E o 7) (Int32.toNatClampNeg ((a1 * 8) + a2)))  h
  · replace h := h.1 hc
    refine a_aload_n C dX2_wayTo_5 rfl 0 rfl rfl ?_
    refine g_2_8 C hE dX2_wayTo_6 ho kw_2_109 rfl ?_
    have k6 : ms_is E (ms_at E o 8) 13 := ms_wt hE ho rfl (by decide)
    have n6 : ms_N E (ms_at E o 8) = 8 := ms_wl hE ho (by decide) (by decide) rfl
    refine a_iload_n C dX2_wayTo_9 rfl 2 rfl rfl ?_
    obtain ⟨q10, h⟩ := h
    refine a_iald C dX2_wayTo_10 k6 n6 q10 rfl ?_
    refine a_goto (tgt := 25) C dX2_wayTo_11 (by decide) ?_
    refine a_sub (lv' := []) [] rfl ?_
    exact c_X2_wayTo_25 C hr hlocks hE ho  u (ms_I u (ms_at E o 8) (Int32.toNatClampNeg a2))  h

/-! CensusWalk$Search.latestCall(II)I -/
theorem pd_X2_latestCall : (⟨"CensusWalk$Search", "latestCall", "(II)I"⟩ : MethodName).cls = "CensusWalk$Search" ∧ (⟨"CensusWalk$Search", "latestCall", "(II)I"⟩ : MethodName).cls ≠ "java/lang/invoke/MethodHandle" ∧ (⟨"CensusWalk$Search", "latestCall", "(II)I"⟩ : MethodName).cls ≠ "java/lang/invoke/VarHandle" ∧ (parseMethodDescriptor (⟨"CensusWalk$Search", "latestCall", "(II)I"⟩ : MethodName).desc).map (fun d => d.parameters.length) = some 2 := by decide +kernel
def wp_X2_latestCall_35 (E : ms_En) (o : Nat) (a1 : Int32) (a2 : Int32) (post : Int32 → ms_St → Prop)  (u : ms_St) (z0 : Int32) : Prop := post z0 u
set_option maxHeartbeats 4000000 in
set_option maxRecDepth 100000 in
theorem c_X2_latestCall_35 {p : Program} {l : Launch} {e : Env} {s : State} {m : MethodId} {args : Array Value} {below : List Frame} {meth : Method} {c : Code} {G : va_G} {cy : Nat → ClassId} {A : Nat → Prop} {L : Nat → Nat} {E : ms_En} (C : ms_Cx p m c cX2_latestCall 4 s args (Cond.code ⟨"CensusWalk$Search", "latestCall", "(II)I"⟩ prog_4_method_16_code 4 (some .int)) "CensusWalk$Search" G cy A) (hr : meth.sig.returnType = (some .int)) (hlocks : meth.locks = false) (hE : ms_WT E) {o : Nat} {a1 : Int32} {a2 : Int32} {post : Int32 → ms_St → Prop}  (ho : ms_is E o 2)  (u : ms_St) (z0 : Int32)  (h : wp_X2_latestCall_35 E o a1 a2 post u z0) : ms_At p l e ({ frames := 1, cells := 0, slots := 0, locals := 30 } : Room) s m args below meth c 4 G cy A L 0 0 (ms_QI below args s G cy L E A post 0 0) E u 35 [] [.int z0] := by
  unfold wp_X2_latestCall_35 at h
  exact a_iret C dX2_latestCall_35 hr hlocks (Nat.le_of_ble_eq_true rfl) (Nat.le_of_ble_eq_true rfl) h
def wp_X2_latestCall (E : ms_En) (u : ms_St) (o : Nat) (a1 : Int32) (a2 : Int32) (post : Int32 → ms_St → Prop) : Prop := vp_in a1 8 ∧ (vp_in a1 8 ∧ (∀ v19 : Int32, v19 = (if (a2 - (ms_I u (ms_at E o 6) (Int32.toNatClampNeg a1))) < ((ms_I u (ms_at E o 5) (Int32.toNatClampNeg a1)) - 1) then (a2 - (ms_I u (ms_at E o 6) (Int32.toNatClampNeg a1))) else ((ms_I u (ms_at E o 5) (Int32.toNatClampNeg a1)) - 1)) → (vp_in a1 8 ∧ ((v19 < (ms_I u (ms_at E o 4) (Int32.toNatClampNeg a1)) → wp_X2_latestCall_35 E o a1 a2 post u (-1)) ∧ (¬ v19 < (ms_I u (ms_at E o 4) (Int32.toNatClampNeg a1)) → wp_X2_latestCall_35 E o a1 a2 post u v19)))))
set_option maxHeartbeats 4000000 in
set_option maxRecDepth 100000 in
theorem c_X2_latestCall (l : Launch) (G : va_G) (cy : Nat → ClassId) (L : Nat → Nat) (E : ms_En) (hE : ms_WT E) (u : ms_St) (o : Nat) (a1 : Int32) (a2 : Int32) (ho : ms_is E o 2) (post : Int32 → ms_St → Prop) (h : wp_X2_latestCall E u o a1 a2 post) : ms_MetI l ⟨"CensusWalk$Search", "latestCall", "(II)I"⟩ (Cond.code ⟨"CensusWalk$Search", "latestCall", "(II)I"⟩ prog_4_method_16_code 4 (some .int) :: lw_g) ({ frames := 1, cells := 0, slots := 0, locals := 30 } : Room) G cy L E [.ref (L o), .int a1, .int a2] u post 0 0 := by
  refine ms_enterI (lv := [(0, .ref (L o)), (1, .int a1), (2, .int a2)]) (by decide) (Nat.le_of_ble_eq_true rfl) rfl ?_
  intro p e s m args below meth c A C hr hlocks
  unfold wp_X2_latestCall at h
  refine a_aload_n C dX2_latestCall_0 rfl 0 rfl rfl ?_
  refine g_2_5 C hE dX2_latestCall_1 ho kw_2_106 rfl ?_
  have k1 : ms_is E (ms_at E o 5) 13 := ms_wt hE ho rfl (by decide)
  have n1 : ms_N E (ms_at E o 5) = 8 := ms_wl hE ho (by decide) (by decide) rfl
  refine a_iload_n C dX2_latestCall_4 rfl 1 rfl rfl ?_
  obtain ⟨q5, h⟩ := h
  refine a_iald C dX2_latestCall_5 k1 n1 q5 rfl ?_
  refine a_iconst (v := 1) C dX2_latestCall_6 (by decide) rfl ?_
  refine a_isub C dX2_latestCall_7 rfl ?_
  refine a_iload_n C dX2_latestCall_8 rfl 2 rfl rfl ?_
  refine a_aload_n C dX2_latestCall_9 rfl 0 rfl rfl ?_
  refine g_2_6 C hE dX2_latestCall_10 ho kw_2_107 rfl ?_
  have k10 : ms_is E (ms_at E o 6) 13 := ms_wt hE ho rfl (by decide)
  have n10 : ms_N E (ms_at E o 6) = 8 := ms_wl hE ho (by decide) (by decide) rfl
  refine a_iload_n C dX2_latestCall_13 rfl 1 rfl rfl ?_
  obtain ⟨q14, h⟩ := h
  refine a_iald C dX2_latestCall_14 k10 n10 q14 rfl ?_
  refine a_isub C dX2_latestCall_15 rfl ?_
  refine a_mmin C dX2_latestCall_16 kw_5_92 kw_3_47 kw_1_17 kw_3_48 (Nat.le_of_ble_eq_true rfl) (Nat.le_of_ble_eq_true rfl) (Nat.le_of_ble_eq_true rfl) (Nat.le_of_ble_eq_true rfl) rfl ?_
  refine a_nmI (fun v19 e19 => ?_)
  replace h := h v19 e19
  refine a_istore_n (lv' := [(0, .ref (L o)), (1, .int a1), (2, .int a2), (3, .int v19)]) C dX2_latestCall_19 rfl (by decide) [1, 2, 3, 0] rfl rfl ?_
  refine a_iload_n C dX2_latestCall_20 rfl 3 rfl rfl ?_
  refine a_aload_n C dX2_latestCall_21 rfl 0 rfl rfl ?_
  refine g_2_4 C hE dX2_latestCall_22 ho kw_2_105 rfl ?_
  have k22 : ms_is E (ms_at E o 4) 13 := ms_wt hE ho rfl (by decide)
  have n22 : ms_N E (ms_at E o 4) = 8 := ms_wl hE ho (by decide) (by decide) rfl
  refine a_iload_n C dX2_latestCall_25 rfl 1 rfl rfl ?_
  obtain ⟨q26, h⟩ := h
  refine a_iald C dX2_latestCall_26 k22 n22 q26 rfl ?_
  refine a_icmp_lt (tgt := 34) C dX2_latestCall_27 (by decide) rfl (fun hc => ?_) (fun hc => ?_)
  · replace h := h.1 hc
    refine a_iconst (v := (-1)) C dX2_latestCall_34 (by decide) rfl ?_
    refine a_sub (lv' := []) [] rfl ?_
    exact c_X2_latestCall_35 C hr hlocks hE ho  u (-1)  h
  · replace h := h.2 hc
    refine a_iload_n C dX2_latestCall_30 rfl 3 rfl rfl ?_
    refine a_goto (tgt := 35) C dX2_latestCall_31 (by decide) ?_
    refine a_sub (lv' := []) [] rfl ?_
    exact c_X2_latestCall_35 C hr hlocks hE ho  u v19  h

/-! CensusWalk$Search.earliestEnd(I)I -/
theorem pd_X2_earliestEnd : (⟨"CensusWalk$Search", "earliestEnd", "(I)I"⟩ : MethodName).cls = "CensusWalk$Search" ∧ (⟨"CensusWalk$Search", "earliestEnd", "(I)I"⟩ : MethodName).cls ≠ "java/lang/invoke/MethodHandle" ∧ (⟨"CensusWalk$Search", "earliestEnd", "(I)I"⟩ : MethodName).cls ≠ "java/lang/invoke/VarHandle" ∧ (parseMethodDescriptor (⟨"CensusWalk$Search", "earliestEnd", "(I)I"⟩ : MethodName).desc).map (fun d => d.parameters.length) = some 1 := by decide +kernel
def wp_X2_earliestEnd_45 (E : ms_En) (o : Nat) (a1 : Int32) (post : Int32 → ms_St → Prop) (k13 : ms_St → Int32 → Int32 → Prop) (u : ms_St) (x2 : Int32) (x3 : Int32) : Prop := k13 u x2 (x3 + 1)
set_option maxHeartbeats 4000000 in
set_option maxRecDepth 100000 in
theorem c_X2_earliestEnd_45 {p : Program} {l : Launch} {e : Env} {s : State} {m : MethodId} {args : Array Value} {below : List Frame} {meth : Method} {c : Code} {G : va_G} {cy : Nat → ClassId} {A : Nat → Prop} {L : Nat → Nat} {E : ms_En} (C : ms_Cx p m c cX2_earliestEnd 4 s args (Cond.code ⟨"CensusWalk$Search", "earliestEnd", "(I)I"⟩ prog_4_method_10_code 4 (some .int)) "CensusWalk$Search" G cy A) (hr : meth.sig.returnType = (some .int)) (hlocks : meth.locks = false) (hE : ms_WT E) {o : Nat} {a1 : Int32} {post : Int32 → ms_St → Prop} {k13 : ms_St → Int32 → Int32 → Prop} (ho : ms_is E o 2) (hk13 : ∀ (u : ms_St) (x2 : Int32) (x3 : Int32), k13 u x2 x3 → ms_At p l e ({ frames := 2, cells := 0, slots := 0, locals := 51 } : Room) s m args below meth c 4 G cy A L 0 0 (ms_QI below args s G cy L E A post 0 0) E u 13 [(0, .ref (L o)), (1, .int a1), (2, .int x2), (3, .int x3)] []) (u : ms_St) (x2 : Int32) (x3 : Int32)  (h : wp_X2_earliestEnd_45 E o a1 post k13 u x2 x3) : ms_At p l e ({ frames := 2, cells := 0, slots := 0, locals := 51 } : Room) s m args below meth c 4 G cy A L 0 0 (ms_QI below args s G cy L E A post 0 0) E u 45 [(0, .ref (L o)), (1, .int a1), (2, .int x2), (3, .int x3)] [] := by
  unfold wp_X2_earliestEnd_45 at h
  refine a_iinc (lv' := [(0, .ref (L o)), (1, .int a1), (2, .int x2), (3, .int (x3 + 1))]) (v := (x3 + 1)) C dX2_earliestEnd_45 3 rfl (congrArg (fun z => x3 + z) (by decide)) (by decide) [1, 2, 3, 0] rfl rfl ?_
  refine a_goto (tgt := 13) C dX2_earliestEnd_48 (by decide) ?_
  exact hk13 u x2 (x3 + 1)  h
def wp_X2_earliestEnd_13 (E : ms_En) (o : Nat) (a1 : Int32) (post : Int32 → ms_St → Prop)  : Nat → ms_St → Int32 → Int32 → Prop
  | 0 => fun _ _ _ => False
  | n + 1 => fun u x2 x3 => ((ms_I u o 0) ≤ x3 → post x2 u) ∧ (¬ (ms_I u o 0) ≤ x3 → wp_X10_contains E u a1 x3 (fun r23 u23 => (r23 = 0 → wp_X2_earliestEnd_45 E o a1 post (wp_X2_earliestEnd_13 E o a1 post n) u23 x2 x3) ∧ (¬ r23 = 0 → vp_in ((a1 * 8) + x3) 2048 ∧ (wp_X2_earlier E u23 x2 (ms_I u23 (ms_at E o 10) (Int32.toNatClampNeg ((a1 * 8) + x3))) (fun r41 u41 => wp_X2_earliestEnd_45 E o a1 post (wp_X2_earliestEnd_13 E o a1 post n) u41 r41 x3)))))
set_option maxHeartbeats 4000000 in
set_option maxRecDepth 100000 in
theorem c_X2_earliestEnd_13 {p : Program} {l : Launch} {e : Env} {s : State} {m : MethodId} {args : Array Value} {below : List Frame} {meth : Method} {c : Code} {G : va_G} {cy : Nat → ClassId} {A : Nat → Prop} {L : Nat → Nat} {E : ms_En} (C : ms_Cx p m c cX2_earliestEnd 4 s args (Cond.code ⟨"CensusWalk$Search", "earliestEnd", "(I)I"⟩ prog_4_method_10_code 4 (some .int)) "CensusWalk$Search" G cy A) (hr : meth.sig.returnType = (some .int)) (hlocks : meth.locks = false) (hE : ms_WT E) {o : Nat} {a1 : Int32} {post : Int32 → ms_St → Prop}  (ho : ms_is E o 2)  : ∀ (n : Nat) (u : ms_St) (x2 : Int32) (x3 : Int32), wp_X2_earliestEnd_13 E o a1 post n u x2 x3 → ms_At p l e ({ frames := 2, cells := 0, slots := 0, locals := 51 } : Room) s m args below meth c 4 G cy A L 0 0 (ms_QI below args s G cy L E A post 0 0) E u 13 [(0, .ref (L o)), (1, .int a1), (2, .int x2), (3, .int x3)] [] := by
  intro n
  induction n with
  | zero =>
    intro u x2 x3  h
    exact absurd h id
  | succ n ih =>
    intro u x2 x3  h
    unfold wp_X2_earliestEnd_13 at h
    refine a_iload_n C dX2_earliestEnd_13 rfl 3 rfl rfl ?_
    refine a_aload_n C dX2_earliestEnd_14 rfl 0 rfl rfl ?_
    refine g_2_0 C dX2_earliestEnd_15 ho kw_2_98 rfl ?_
    refine a_icmp_ge (tgt := 51) C dX2_earliestEnd_18 (by decide) rfl (fun hc => ?_) (fun hc => ?_)
    · replace h := h.1 hc
      refine a_iload_n C dX2_earliestEnd_51 rfl 2 rfl rfl ?_
      exact a_iret C dX2_earliestEnd_52 hr hlocks (Nat.le_of_ble_eq_true rfl) (Nat.le_of_ble_eq_true rfl) h
    · replace h := h.2 hc
      refine a_iload_n C dX2_earliestEnd_21 rfl 1 rfl rfl ?_
      refine a_iload_n C dX2_earliestEnd_22 rfl 3 rfl rfl ?_
      refine a_callNI C (c_X10_contains l G cy L E hE u a1 x3  _ h) (List.mem_of_getElem? (i := 12) rfl) kw_3_73 kw_1_1 kw_3_74 rfl rfl pd_X10_contains ⟨(Nat.le_of_ble_eq_true rfl), (Nat.le_of_ble_eq_true rfl)⟩ dX2_earliestEnd_23 rfl (Nat.le_of_ble_eq_true rfl) ⟨(Nat.le_of_ble_eq_true rfl), (Nat.le_of_ble_eq_true rfl)⟩ rfl (fun r23 u23 h => ?_)
      refine a_if_eq (tgt := 45) C dX2_earliestEnd_26 (by decide) rfl (fun hc => ?_) (fun hc => ?_)
      · replace h := h.1 hc
        exact c_X2_earliestEnd_45 C hr hlocks hE ho ih u23 x2 x3  h
      · replace h := h.2 hc
        refine a_iload_n C dX2_earliestEnd_29 rfl 2 rfl rfl ?_
        refine a_aload_n C dX2_earliestEnd_30 rfl 0 rfl rfl ?_
        refine g_2_10 C hE dX2_earliestEnd_31 ho kw_2_111 rfl ?_
        have k31 : ms_is E (ms_at E o 10) 13 := ms_wt hE ho rfl (by decide)
        have n31 : ms_N E (ms_at E o 10) = 2048 := ms_wl hE ho (by decide) (by decide) rfl
        refine a_iload_n C dX2_earliestEnd_34 rfl 1 rfl rfl ?_
        refine a_bipush (v := 8) C dX2_earliestEnd_35 (by decide) rfl ?_
        refine a_imul C dX2_earliestEnd_37 rfl ?_
        refine a_iload_n C dX2_earliestEnd_38 rfl 3 rfl rfl ?_
        refine a_iadd C dX2_earliestEnd_39 rfl ?_
        obtain ⟨q40, h⟩ := h
        refine a_iald C dX2_earliestEnd_40 k31 n31 q40 rfl ?_
        refine a_callSI C (c_X2_earlier l G cy L E hE u23 x2 (ms_I u23 (ms_at E o 10) (Int32.toNatClampNeg ((a1 * 8) + x3)))  _ h) kw_5_89 kw_5_90 kw_1_11 kw_5_91 rfl rfl pd_X2_earlier ⟨(Nat.le_of_ble_eq_true rfl), (Nat.le_of_ble_eq_true rfl)⟩ dX2_earliestEnd_41 rfl (Nat.le_of_ble_eq_true rfl) ⟨(Nat.le_of_ble_eq_true rfl), (Nat.le_of_ble_eq_true rfl)⟩ rfl (fun r41 u41 h => ?_)
        refine a_istore_n (lv' := [(0, .ref (L o)), (1, .int a1), (2, .int r41), (3, .int x3)]) C dX2_earliestEnd_44 rfl (by decide) [1, 2, 0, 3] rfl rfl ?_
        exact c_X2_earliestEnd_45 C hr hlocks hE ho ih u41 r41 x3  h
def wp_X2_earliestEnd (E : ms_En) (u : ms_St) (o : Nat) (a1 : Int32) (post : Int32 → ms_St → Prop) : Prop := (a1 = 0 → post (ms_I u o 9) u) ∧ (¬ a1 = 0 → ∃ n13, wp_X2_earliestEnd_13 E o a1 post n13 u (-1) 0)
set_option maxHeartbeats 4000000 in
set_option maxRecDepth 100000 in
theorem c_X2_earliestEnd (l : Launch) (G : va_G) (cy : Nat → ClassId) (L : Nat → Nat) (E : ms_En) (hE : ms_WT E) (u : ms_St) (o : Nat) (a1 : Int32) (ho : ms_is E o 2) (post : Int32 → ms_St → Prop) (h : wp_X2_earliestEnd E u o a1 post) : ms_MetI l ⟨"CensusWalk$Search", "earliestEnd", "(I)I"⟩ (Cond.code ⟨"CensusWalk$Search", "earliestEnd", "(I)I"⟩ prog_4_method_10_code 4 (some .int) :: lw_g) ({ frames := 2, cells := 0, slots := 0, locals := 51 } : Room) G cy L E [.ref (L o), .int a1] u post 0 0 := by
  refine ms_enterI (lv := [(0, .ref (L o)), (1, .int a1)]) (by decide) (Nat.le_of_ble_eq_true rfl) rfl ?_
  intro p e s m args below meth c A C hr hlocks
  unfold wp_X2_earliestEnd at h
  refine a_iload_n C dX2_earliestEnd_0 rfl 1 rfl rfl ?_
  refine a_if_ne (tgt := 9) C dX2_earliestEnd_1 (by decide) rfl (fun hc => ?_) (fun hc => ?_)
  · replace h := h.2 hc
    refine a_iconst (v := (-1)) C dX2_earliestEnd_9 (by decide) rfl ?_
    refine a_istore_n (lv' := [(0, .ref (L o)), (1, .int a1), (2, .int (-1))]) C dX2_earliestEnd_10 rfl (by decide) [1, 2, 0] rfl rfl ?_
    refine a_iconst (v := 0) C dX2_earliestEnd_11 (by decide) rfl ?_
    refine a_istore_n (lv' := [(0, .ref (L o)), (1, .int a1), (2, .int (-1)), (3, .int 0)]) C dX2_earliestEnd_12 rfl (by decide) [1, 2, 3, 0] rfl rfl ?_
    obtain ⟨n9, h⟩ := h
    exact c_X2_earliestEnd_13 C hr hlocks hE ho  n9 u (-1) 0  h
  · replace h := h.1 hc
    refine a_aload_n C dX2_earliestEnd_4 rfl 0 rfl rfl ?_
    refine g_2_9 C dX2_earliestEnd_5 ho kw_2_110 rfl ?_
    exact a_iret C dX2_earliestEnd_8 hr hlocks (Nat.le_of_ble_eq_true rfl) (Nat.le_of_ble_eq_true rfl) h

/-! CensusWalk$Search.earliestAfter(II)I -/
theorem pd_X2_earliestAfter : (⟨"CensusWalk$Search", "earliestAfter", "(II)I"⟩ : MethodName).cls = "CensusWalk$Search" ∧ (⟨"CensusWalk$Search", "earliestAfter", "(II)I"⟩ : MethodName).cls ≠ "java/lang/invoke/MethodHandle" ∧ (⟨"CensusWalk$Search", "earliestAfter", "(II)I"⟩ : MethodName).cls ≠ "java/lang/invoke/VarHandle" ∧ (parseMethodDescriptor (⟨"CensusWalk$Search", "earliestAfter", "(II)I"⟩ : MethodName).desc).map (fun d => d.parameters.length) = some 2 := by decide +kernel
def wp_X2_earliestAfter_97 (E : ms_En) (o : Nat) (a1 : Int32) (a2 : Int32) (post : Int32 → ms_St → Prop) (k25 : ms_St → Int32 → Int32 → Prop) (u : ms_St) (x3 : Int32) (x4 : Int32) : Prop := k25 u x3 (x4 + 1)
set_option maxHeartbeats 4000000 in
set_option maxRecDepth 100000 in
theorem c_X2_earliestAfter_97 {p : Program} {l : Launch} {e : Env} {s : State} {m : MethodId} {args : Array Value} {below : List Frame} {meth : Method} {c : Code} {G : va_G} {cy : Nat → ClassId} {A : Nat → Prop} {L : Nat → Nat} {E : ms_En} (C : ms_Cx p m c cX2_earliestAfter 6 s args (Cond.code ⟨"CensusWalk$Search", "earliestAfter", "(II)I"⟩ prog_4_method_9_code 6 (some .int)) "CensusWalk$Search" G cy A) (hr : meth.sig.returnType = (some .int)) (hlocks : meth.locks = false) (hE : ms_WT E) {o : Nat} {a1 : Int32} {a2 : Int32} {post : Int32 → ms_St → Prop} {k25 : ms_St → Int32 → Int32 → Prop} (ho : ms_is E o 2) (hk25 : ∀ (u : ms_St) (x3 : Int32) (x4 : Int32), k25 u x3 x4 → ms_At p l e ({ frames := 2, cells := 0, slots := 0, locals := 53 } : Room) s m args below meth c 6 G cy A L 0 0 (ms_QI below args s G cy L E A post 0 0) E u 25 [(0, .ref (L o)), (1, .int a1), (2, .int a2), (3, .int x3), (4, .int x4)] []) (u : ms_St) (x3 : Int32) (x4 : Int32)  (h : wp_X2_earliestAfter_97 E o a1 a2 post k25 u x3 x4) : ms_At p l e ({ frames := 2, cells := 0, slots := 0, locals := 53 } : Room) s m args below meth c 6 G cy A L 0 0 (ms_QI below args s G cy L E A post 0 0) E u 97 [(0, .ref (L o)), (1, .int a1), (2, .int a2), (3, .int x3), (4, .int x4)] [] := by
  unfold wp_X2_earliestAfter_97 at h
  refine a_iinc (lv' := [(0, .ref (L o)), (1, .int a1), (2, .int a2), (3, .int x3), (4, .int (x4 + 1))]) (v := (x4 + 1)) C dX2_earliestAfter_97 4 rfl (congrArg (fun z => x4 + z) (by decide)) (by decide) [1, 2, 3, 4, 0] rfl rfl ?_
  refine a_goto (tgt := 25) C dX2_earliestAfter_100 (by decide) ?_
  exact hk25 u x3 (x4 + 1)  h
def wp_X2_earliestAfter_25 (E : ms_En) (o : Nat) (a1 : Int32) (a2 : Int32) (post : Int32 → ms_St → Prop)  : Nat → ms_St → Int32 → Int32 → Prop
  | 0 => fun _ _ _ => False
  | n + 1 => fun u x3 x4 => ((ms_I u o 0) ≤ x4 → post x3 u) ∧ (¬ (ms_I u o 0) ≤ x4 → wp_X10_contains E u a1 x4 (fun r37 u37 => (r37 = 0 → wp_X2_earliestAfter_97 E o a1 a2 post (wp_X2_earliestAfter_25 E o a1 a2 post n) u37 x3 x4) ∧ (¬ r37 = 0 → vp_in ((a1 * 8) + x4) 2048 ∧ (((ms_I u37 (ms_at E o 10) (Int32.toNatClampNeg ((a1 * 8) + x4))) = (-1) → wp_X2_earliestAfter_97 E o a1 a2 post (wp_X2_earliestAfter_25 E o a1 a2 post n) u37 x3 x4) ∧ (¬ (ms_I u37 (ms_at E o 10) (Int32.toNatClampNeg ((a1 * 8) + x4))) = (-1) → vp_in ((x4 * 8) + a2) 64 ∧ (vp_in ((a1 * 8) + x4) 2048 ∧ (wp_X2_visitEnd E u37 o a2 (ms_I u37 (ms_at E o 7) (Int32.toNatClampNeg ((x4 * 8) + a2))) (ms_I u37 (ms_at E o 10) (Int32.toNatClampNeg ((a1 * 8) + x4))) (fun r85 u85 => wp_X2_earlier E u85 x3 r85 (fun r93 u93 => wp_X2_earliestAfter_97 E o a1 a2 post (wp_X2_earliestAfter_25 E o a1 a2 post n) u93 r93 x4)))))))))
set_option maxHeartbeats 4000000 in
set_option maxRecDepth 100000 in
theorem c_X2_earliestAfter_25 {p : Program} {l : Launch} {e : Env} {s : State} {m : MethodId} {args : Array Value} {below : List Frame} {meth : Method} {c : Code} {G : va_G} {cy : Nat → ClassId} {A : Nat → Prop} {L : Nat → Nat} {E : ms_En} (C : ms_Cx p m c cX2_earliestAfter 6 s args (Cond.code ⟨"CensusWalk$Search", "earliestAfter", "(II)I"⟩ prog_4_method_9_code 6 (some .int)) "CensusWalk$Search" G cy A) (hr : meth.sig.returnType = (some .int)) (hlocks : meth.locks = false) (hE : ms_WT E) {o : Nat} {a1 : Int32} {a2 : Int32} {post : Int32 → ms_St → Prop}  (ho : ms_is E o 2)  : ∀ (n : Nat) (u : ms_St) (x3 : Int32) (x4 : Int32), wp_X2_earliestAfter_25 E o a1 a2 post n u x3 x4 → ms_At p l e ({ frames := 2, cells := 0, slots := 0, locals := 53 } : Room) s m args below meth c 6 G cy A L 0 0 (ms_QI below args s G cy L E A post 0 0) E u 25 [(0, .ref (L o)), (1, .int a1), (2, .int a2), (3, .int x3), (4, .int x4)] [] := by
  intro n
  induction n with
  | zero =>
    intro u x3 x4  h
    exact absurd h id
  | succ n ih =>
    intro u x3 x4  h
    unfold wp_X2_earliestAfter_25 at h
    refine a_iload C dX2_earliestAfter_25 4 rfl rfl ?_
    refine a_aload_n C dX2_earliestAfter_27 rfl 0 rfl rfl ?_
    refine g_2_0 C dX2_earliestAfter_28 ho kw_2_98 rfl ?_
    refine a_icmp_ge (tgt := 103) C dX2_earliestAfter_31 (by decide) rfl (fun hc => ?_) (fun hc => ?_)
    · replace h := h.1 hc
      refine a_iload_n C dX2_earliestAfter_103 rfl 3 rfl rfl ?_
      exact a_iret C dX2_earliestAfter_104 hr hlocks (Nat.le_of_ble_eq_true rfl) (Nat.le_of_ble_eq_true rfl) h
    · replace h := h.2 hc
      refine a_iload_n C dX2_earliestAfter_34 rfl 1 rfl rfl ?_
      refine a_iload C dX2_earliestAfter_35 4 rfl rfl ?_
      refine a_callNI C (c_X10_contains l G cy L E hE u a1 x4  _ h) (List.mem_of_getElem? (i := 12) rfl) kw_3_73 kw_1_1 kw_3_74 rfl rfl pd_X10_contains ⟨(Nat.le_of_ble_eq_true rfl), (Nat.le_of_ble_eq_true rfl)⟩ dX2_earliestAfter_37 rfl (Nat.le_of_ble_eq_true rfl) ⟨(Nat.le_of_ble_eq_true rfl), (Nat.le_of_ble_eq_true rfl)⟩ rfl (fun r37 u37 h => ?_)
      refine a_if_eq (tgt := 97) C dX2_earliestAfter_40 (by decide) rfl (fun hc => ?_) (fun hc => ?_)
      · replace h := h.1 hc
        exact c_X2_earliestAfter_97 C hr hlocks hE ho ih u37 x3 x4  h
      · replace h := h.2 hc
        refine a_aload_n C dX2_earliestAfter_43 rfl 0 rfl rfl ?_
        refine g_2_10 C hE dX2_earliestAfter_44 ho kw_2_111 rfl ?_
        have k44 : ms_is E (ms_at E o 10) 13 := ms_wt hE ho rfl (by decide)
        have n44 : ms_N E (ms_at E o 10) = 2048 := ms_wl hE ho (by decide) (by decide) rfl
        refine a_iload_n C dX2_earliestAfter_47 rfl 1 rfl rfl ?_
        refine a_bipush (v := 8) C dX2_earliestAfter_48 (by decide) rfl ?_
        refine a_imul C dX2_earliestAfter_50 rfl ?_
        refine a_iload C dX2_earliestAfter_51 4 rfl rfl ?_
        refine a_iadd C dX2_earliestAfter_53 rfl ?_
        obtain ⟨q54, h⟩ := h
        refine a_iald C dX2_earliestAfter_54 k44 n44 q54 rfl ?_
        refine a_iconst (v := (-1)) C dX2_earliestAfter_55 (by decide) rfl ?_
        refine a_icmp_eq (tgt := 97) C dX2_earliestAfter_56 (by decide) rfl (fun hc => ?_) (fun hc => ?_)
        · replace h := h.1 hc
          exact c_X2_earliestAfter_97 C hr hlocks hE ho ih u37 x3 x4  h
        · replace h := h.2 hc
          refine a_aload_n C dX2_earliestAfter_59 rfl 0 rfl rfl ?_
          refine a_iload_n C dX2_earliestAfter_60 rfl 2 rfl rfl ?_
          refine a_aload_n C dX2_earliestAfter_61 rfl 0 rfl rfl ?_
          refine g_2_7 C hE dX2_earliestAfter_62 ho kw_2_108 rfl ?_
          have k62 : ms_is E (ms_at E o 7) 13 := ms_wt hE ho rfl (by decide)
          have n62 : ms_N E (ms_at E o 7) = 64 := ms_wl hE ho (by decide) (by decide) rfl
          refine a_iload C dX2_earliestAfter_65 4 rfl rfl ?_
          refine a_bipush (v := 8) C dX2_earliestAfter_67 (by decide) rfl ?_
          refine a_imul C dX2_earliestAfter_69 rfl ?_
          refine a_iload_n C dX2_earliestAfter_70 rfl 2 rfl rfl ?_
          refine a_iadd C dX2_earliestAfter_71 rfl ?_
          obtain ⟨q72, h⟩ := h
          refine a_iald C dX2_earliestAfter_72 k62 n62 q72 rfl ?_
          refine a_aload_n C dX2_earliestAfter_73 rfl 0 rfl rfl ?_
          refine g_2_10 C hE dX2_earliestAfter_74 ho kw_2_111 rfl ?_
          refine a_iload_n C dX2_earliestAfter_77 rfl 1 rfl rfl ?_
          refine a_bipush (v := 8) C dX2_earliestAfter_78 (by decide) rfl ?_
          refine a_imul C dX2_earliestAfter_80 rfl ?_
          refine a_iload C dX2_earliestAfter_81 4 rfl rfl ?_
          refine a_iadd C dX2_earliestAfter_83 rfl ?_
          obtain ⟨q84, h⟩ := h
          refine a_iald C dX2_earliestAfter_84 k44 n44 q84 rfl ?_
          refine a_callVI C (c_X2_visitEnd l G cy L E hE u37 o a2 (ms_I u37 (ms_at E o 7) (Int32.toNatClampNeg ((x4 * 8) + a2))) (ms_I u37 (ms_at E o 10) (Int32.toNatClampNeg ((a1 * 8) + x4))) ho _ h) ho rfl (by decide) kw_5_84 kw_5_86 kp_34 kw_1_11 kw_5_87 rfl rfl pd_X2_visitEnd ⟨(Nat.le_of_ble_eq_true rfl), (Nat.le_of_ble_eq_true rfl)⟩ dX2_earliestAfter_85 rfl (Nat.le_of_ble_eq_true rfl) ⟨(Nat.le_of_ble_eq_true rfl), (Nat.le_of_ble_eq_true rfl)⟩ rfl (fun r85 u85 h => ?_)
          refine a_istore (lv' := [(0, .ref (L o)), (1, .int a1), (2, .int a2), (3, .int x3), (4, .int x4), (5, .int r85)]) C dX2_earliestAfter_88 (by decide) [1, 2, 3, 4, 5, 0] rfl rfl ?_
          refine a_iload_n C dX2_earliestAfter_90 rfl 3 rfl rfl ?_
          refine a_iload C dX2_earliestAfter_91 5 rfl rfl ?_
          refine a_callSI C (c_X2_earlier l G cy L E hE u85 x3 r85  _ h) kw_5_89 kw_5_90 kw_1_11 kw_5_91 rfl rfl pd_X2_earlier ⟨(Nat.le_of_ble_eq_true rfl), (Nat.le_of_ble_eq_true rfl)⟩ dX2_earliestAfter_93 rfl (Nat.le_of_ble_eq_true rfl) ⟨(Nat.le_of_ble_eq_true rfl), (Nat.le_of_ble_eq_true rfl)⟩ rfl (fun r93 u93 h => ?_)
          refine a_istore_n (lv' := [(0, .ref (L o)), (1, .int a1), (2, .int a2), (3, .int r93), (4, .int x4), (5, .int r85)]) C dX2_earliestAfter_96 rfl (by decide) [1, 2, 3, 0, 4, 5] rfl rfl ?_
          refine a_sub (lv' := [(0, .ref (L o)), (1, .int a1), (2, .int a2), (3, .int r93), (4, .int x4)]) [0, 1, 2, 3, 4] rfl ?_
          exact c_X2_earliestAfter_97 C hr hlocks hE ho ih u93 r93 x4  h
def wp_X2_earliestAfter (E : ms_En) (u : ms_St) (o : Nat) (a1 : Int32) (a2 : Int32) (post : Int32 → ms_St → Prop) : Prop := (a1 = 0 → vp_in a2 8 ∧ (wp_X2_visitEnd E u o a2 (ms_I u (ms_at E o 8) (Int32.toNatClampNeg a2)) (ms_I u o 9) (fun r16 u16 => post r16 u16))) ∧ (¬ a1 = 0 → ∃ n25, wp_X2_earliestAfter_25 E o a1 a2 post n25 u (-1) 0)
set_option maxHeartbeats 4000000 in
set_option maxRecDepth 100000 in
theorem c_X2_earliestAfter (l : Launch) (G : va_G) (cy : Nat → ClassId) (L : Nat → Nat) (E : ms_En) (hE : ms_WT E) (u : ms_St) (o : Nat) (a1 : Int32) (a2 : Int32) (ho : ms_is E o 2) (post : Int32 → ms_St → Prop) (h : wp_X2_earliestAfter E u o a1 a2 post) : ms_MetI l ⟨"CensusWalk$Search", "earliestAfter", "(II)I"⟩ (Cond.code ⟨"CensusWalk$Search", "earliestAfter", "(II)I"⟩ prog_4_method_9_code 6 (some .int) :: lw_g) ({ frames := 2, cells := 0, slots := 0, locals := 53 } : Room) G cy L E [.ref (L o), .int a1, .int a2] u post 0 0 := by
  refine ms_enterI (lv := [(0, .ref (L o)), (1, .int a1), (2, .int a2)]) (by decide) (Nat.le_of_ble_eq_true rfl) rfl ?_
  intro p e s m args below meth c A C hr hlocks
  unfold wp_X2_earliestAfter at h
  refine a_iload_n C dX2_earliestAfter_0 rfl 1 rfl rfl ?_
  refine a_if_ne (tgt := 20) C dX2_earliestAfter_1 (by decide) rfl (fun hc => ?_) (fun hc => ?_)
  · replace h := h.2 hc
    refine a_iconst (v := (-1)) C dX2_earliestAfter_20 (by decide) rfl ?_
    refine a_istore_n (lv' := [(0, .ref (L o)), (1, .int a1), (2, .int a2), (3, .int (-1))]) C dX2_earliestAfter_21 rfl (by decide) [1, 2, 3, 0] rfl rfl ?_
    refine a_iconst (v := 0) C dX2_earliestAfter_22 (by decide) rfl ?_
    refine a_istore (lv' := [(0, .ref (L o)), (1, .int a1), (2, .int a2), (3, .int (-1)), (4, .int 0)]) C dX2_earliestAfter_23 (by decide) [1, 2, 3, 4, 0] rfl rfl ?_
    obtain ⟨n9, h⟩ := h
    exact c_X2_earliestAfter_25 C hr hlocks hE ho  n9 u (-1) 0  h
  · replace h := h.1 hc
    refine a_aload_n C dX2_earliestAfter_4 rfl 0 rfl rfl ?_
    refine a_iload_n C dX2_earliestAfter_5 rfl 2 rfl rfl ?_
    refine a_aload_n C dX2_earliestAfter_6 rfl 0 rfl rfl ?_
    refine g_2_8 C hE dX2_earliestAfter_7 ho kw_2_109 rfl ?_
    have k7 : ms_is E (ms_at E o 8) 13 := ms_wt hE ho rfl (by decide)
    have n7 : ms_N E (ms_at E o 8) = 8 := ms_wl hE ho (by decide) (by decide) rfl
    refine a_iload_n C dX2_earliestAfter_10 rfl 2 rfl rfl ?_
    obtain ⟨q11, h⟩ := h
    refine a_iald C dX2_earliestAfter_11 k7 n7 q11 rfl ?_
    refine a_aload_n C dX2_earliestAfter_12 rfl 0 rfl rfl ?_
    refine g_2_9 C dX2_earliestAfter_13 ho kw_2_110 rfl ?_
    refine a_callVI C (c_X2_visitEnd l G cy L E hE u o a2 (ms_I u (ms_at E o 8) (Int32.toNatClampNeg a2)) (ms_I u o 9) ho _ h) ho rfl (by decide) kw_5_84 kw_5_86 kp_34 kw_1_11 kw_5_87 rfl rfl pd_X2_visitEnd ⟨(Nat.le_of_ble_eq_true rfl), (Nat.le_of_ble_eq_true rfl)⟩ dX2_earliestAfter_16 rfl (Nat.le_of_ble_eq_true rfl) ⟨(Nat.le_of_ble_eq_true rfl), (Nat.le_of_ble_eq_true rfl)⟩ rfl (fun r16 u16 h => ?_)
    exact a_iret C dX2_earliestAfter_19 hr hlocks (Nat.le_of_ble_eq_true rfl) (Nat.le_of_ble_eq_true rfl) h

/-! CensusWalk$Search.findEarly()V -/
theorem pd_X2_findEarly : (⟨"CensusWalk$Search", "findEarly", "()V"⟩ : MethodName).cls = "CensusWalk$Search" ∧ (⟨"CensusWalk$Search", "findEarly", "()V"⟩ : MethodName).cls ≠ "java/lang/invoke/MethodHandle" ∧ (⟨"CensusWalk$Search", "findEarly", "()V"⟩ : MethodName).cls ≠ "java/lang/invoke/VarHandle" ∧ (parseMethodDescriptor (⟨"CensusWalk$Search", "findEarly", "()V"⟩ : MethodName).desc).map (fun d => d.parameters.length) = some 0 := by decide +kernel
def wp_X2_findEarly_51 (E : ms_En) (o : Nat) (post : ms_St → Prop) (k2 : ms_St → Int32 → Prop) (k14 : ms_St → Int32 → Int32 → Prop) (u : ms_St) (x1 : Int32) (x2 : Int32) : Prop := k14 u x1 (x2 + 1)
set_option maxHeartbeats 4000000 in
set_option maxRecDepth 100000 in
theorem c_X2_findEarly_51 {p : Program} {l : Launch} {e : Env} {s : State} {m : MethodId} {args : Array Value} {below : List Frame} {meth : Method} {c : Code} {G : va_G} {cy : Nat → ClassId} {A : Nat → Prop} {L : Nat → Nat} {E : ms_En} (C : ms_Cx p m c cX2_findEarly 3 s args (Cond.code ⟨"CensusWalk$Search", "findEarly", "()V"⟩ prog_4_method_8_code 3 none) "CensusWalk$Search" G cy A) (hr : meth.sig.returnType = none) (hlocks : meth.locks = false) (hE : ms_WT E) {o : Nat} {post : ms_St → Prop} {k2 : ms_St → Int32 → Prop} {k14 : ms_St → Int32 → Int32 → Prop} (ho : ms_is E o 2) (hk2 : ∀ (u : ms_St) (x1 : Int32), k2 u x1 → ms_At p l e ({ frames := 3, cells := 0, slots := 0, locals := 78 } : Room) s m args below meth c 3 G cy A L 0 0 (ms_QV below args s G cy L E A post 0 0) E u 2 [(0, .ref (L o)), (1, .int x1)] []) (hk14 : ∀ (u : ms_St) (x1 : Int32) (x2 : Int32), k14 u x1 x2 → ms_At p l e ({ frames := 3, cells := 0, slots := 0, locals := 78 } : Room) s m args below meth c 3 G cy A L 0 0 (ms_QV below args s G cy L E A post 0 0) E u 14 [(0, .ref (L o)), (1, .int x1), (2, .int x2)] []) (u : ms_St) (x1 : Int32) (x2 : Int32)  (h : wp_X2_findEarly_51 E o post k2 k14 u x1 x2) : ms_At p l e ({ frames := 3, cells := 0, slots := 0, locals := 78 } : Room) s m args below meth c 3 G cy A L 0 0 (ms_QV below args s G cy L E A post 0 0) E u 51 [(0, .ref (L o)), (1, .int x1), (2, .int x2)] [] := by
  unfold wp_X2_findEarly_51 at h
  refine a_iinc (lv' := [(0, .ref (L o)), (1, .int x1), (2, .int (x2 + 1))]) (v := (x2 + 1)) C dX2_findEarly_51 2 rfl (congrArg (fun z => x2 + z) (by decide)) (by decide) [1, 2, 0] rfl rfl ?_
  refine a_goto (tgt := 14) C dX2_findEarly_54 (by decide) ?_
  exact hk14 u x1 (x2 + 1)  h
def wp_X2_findEarly_14 (E : ms_En) (o : Nat) (post : ms_St → Prop) (k2 : ms_St → Int32 → Prop) : Nat → ms_St → Int32 → Int32 → Prop
  | 0 => fun _ _ _ => False
  | n + 1 => fun u x1 x2 => ((ms_I u o 0) ≤ x2 → k2 u (x1 + 1)) ∧ (¬ (ms_I u o 0) ≤ x2 → wp_X10_contains E u x1 x2 (fun r24 u24 => (r24 = 0 → wp_X2_findEarly_51 E o post k2 (wp_X2_findEarly_14 E o post k2 n) u24 x1 x2) ∧ (¬ r24 = 0 → wp_X2_earliestAfter E u24 o (x1 ^^^ (1 <<< (x2 &&& 31))) x2 (fun r47 u47 => vp_in ((x1 * 8) + x2) 2048 ∧ (wp_X2_findEarly_51 E o post k2 (wp_X2_findEarly_14 E o post k2 n) (ms_sI u47 (ms_at E o 10) (Int32.toNatClampNeg ((x1 * 8) + x2)) r47) x1 x2)))))
set_option maxHeartbeats 4000000 in
set_option maxRecDepth 100000 in
theorem c_X2_findEarly_14 {p : Program} {l : Launch} {e : Env} {s : State} {m : MethodId} {args : Array Value} {below : List Frame} {meth : Method} {c : Code} {G : va_G} {cy : Nat → ClassId} {A : Nat → Prop} {L : Nat → Nat} {E : ms_En} (C : ms_Cx p m c cX2_findEarly 3 s args (Cond.code ⟨"CensusWalk$Search", "findEarly", "()V"⟩ prog_4_method_8_code 3 none) "CensusWalk$Search" G cy A) (hr : meth.sig.returnType = none) (hlocks : meth.locks = false) (hE : ms_WT E) {o : Nat} {post : ms_St → Prop} {k2 : ms_St → Int32 → Prop} (ho : ms_is E o 2) (hk2 : ∀ (u : ms_St) (x1 : Int32), k2 u x1 → ms_At p l e ({ frames := 3, cells := 0, slots := 0, locals := 78 } : Room) s m args below meth c 3 G cy A L 0 0 (ms_QV below args s G cy L E A post 0 0) E u 2 [(0, .ref (L o)), (1, .int x1)] []) : ∀ (n : Nat) (u : ms_St) (x1 : Int32) (x2 : Int32), wp_X2_findEarly_14 E o post k2 n u x1 x2 → ms_At p l e ({ frames := 3, cells := 0, slots := 0, locals := 78 } : Room) s m args below meth c 3 G cy A L 0 0 (ms_QV below args s G cy L E A post 0 0) E u 14 [(0, .ref (L o)), (1, .int x1), (2, .int x2)] [] := by
  intro n
  induction n with
  | zero =>
    intro u x1 x2  h
    exact absurd h id
  | succ n ih =>
    intro u x1 x2  h
    unfold wp_X2_findEarly_14 at h
    refine a_iload_n C dX2_findEarly_14 rfl 2 rfl rfl ?_
    refine a_aload_n C dX2_findEarly_15 rfl 0 rfl rfl ?_
    refine g_2_0 C dX2_findEarly_16 ho kw_2_98 rfl ?_
    refine a_icmp_ge (tgt := 57) C dX2_findEarly_19 (by decide) rfl (fun hc => ?_) (fun hc => ?_)
    · replace h := h.1 hc
      refine a_iinc (lv' := [(0, .ref (L o)), (1, .int (x1 + 1)), (2, .int x2)]) (v := (x1 + 1)) C dX2_findEarly_57 1 rfl (congrArg (fun z => x1 + z) (by decide)) (by decide) [1, 0, 2] rfl rfl ?_
      refine a_goto (tgt := 2) C dX2_findEarly_60 (by decide) ?_
      refine a_sub (lv' := [(0, .ref (L o)), (1, .int (x1 + 1))]) [0, 1] rfl ?_
      exact hk2 u (x1 + 1)  h
    · replace h := h.2 hc
      refine a_iload_n C dX2_findEarly_22 rfl 1 rfl rfl ?_
      refine a_iload_n C dX2_findEarly_23 rfl 2 rfl rfl ?_
      refine a_callNI C (c_X10_contains l G cy L E hE u x1 x2  _ h) (List.mem_of_getElem? (i := 12) rfl) kw_3_73 kw_1_1 kw_3_74 rfl rfl pd_X10_contains ⟨(Nat.le_of_ble_eq_true rfl), (Nat.le_of_ble_eq_true rfl)⟩ dX2_findEarly_24 rfl (Nat.le_of_ble_eq_true rfl) ⟨(Nat.le_of_ble_eq_true rfl), (Nat.le_of_ble_eq_true rfl)⟩ rfl (fun r24 u24 h => ?_)
      refine a_if_eq (tgt := 51) C dX2_findEarly_27 (by decide) rfl (fun hc => ?_) (fun hc => ?_)
      · replace h := h.1 hc
        exact c_X2_findEarly_51 C hr hlocks hE ho hk2 ih u24 x1 x2  h
      · replace h := h.2 hc
        refine a_aload_n C dX2_findEarly_30 rfl 0 rfl rfl ?_
        refine g_2_10 C hE dX2_findEarly_31 ho kw_2_111 rfl ?_
        have k31 : ms_is E (ms_at E o 10) 13 := ms_wt hE ho rfl (by decide)
        have n31 : ms_N E (ms_at E o 10) = 2048 := ms_wl hE ho (by decide) (by decide) rfl
        refine a_iload_n C dX2_findEarly_34 rfl 1 rfl rfl ?_
        refine a_bipush (v := 8) C dX2_findEarly_35 (by decide) rfl ?_
        refine a_imul C dX2_findEarly_37 rfl ?_
        refine a_iload_n C dX2_findEarly_38 rfl 2 rfl rfl ?_
        refine a_iadd C dX2_findEarly_39 rfl ?_
        refine a_aload_n C dX2_findEarly_40 rfl 0 rfl rfl ?_
        refine a_iload_n C dX2_findEarly_41 rfl 1 rfl rfl ?_
        refine a_iconst (v := 1) C dX2_findEarly_42 (by decide) rfl ?_
        refine a_iload_n C dX2_findEarly_43 rfl 2 rfl rfl ?_
        refine a_ishl C dX2_findEarly_44 rfl ?_
        refine a_ixor C dX2_findEarly_45 rfl ?_
        refine a_iload_n C dX2_findEarly_46 rfl 2 rfl rfl ?_
        refine a_callVI C (c_X2_earliestAfter l G cy L E hE u24 o (x1 ^^^ (1 <<< (x2 &&& 31))) x2 ho _ h) ho rfl (by decide) kw_5_80 kw_5_82 kp_33 kw_1_11 kw_5_83 rfl rfl pd_X2_earliestAfter ⟨(Nat.le_of_ble_eq_true rfl), (Nat.le_of_ble_eq_true rfl)⟩ dX2_findEarly_47 rfl (Nat.le_of_ble_eq_true rfl) ⟨(Nat.le_of_ble_eq_true rfl), (Nat.le_of_ble_eq_true rfl)⟩ rfl (fun r47 u47 h => ?_)
        obtain ⟨q50, h⟩ := h
        refine a_iast C dX2_findEarly_50 k31 n31 q50 rfl ?_
        exact c_X2_findEarly_51 C hr hlocks hE ho hk2 ih (ms_sI u47 (ms_at E o 10) (Int32.toNatClampNeg ((x1 * 8) + x2)) r47) x1 x2  h
def wp_X2_findEarly_2 (E : ms_En) (o : Nat) (post : ms_St → Prop)  : Nat → ms_St → Int32 → Prop
  | 0 => fun _ _ => False
  | n + 1 => fun u x1 => ((1 <<< ((ms_I u o 0) &&& 31)) ≤ x1 → post u) ∧ (¬ (1 <<< ((ms_I u o 0) &&& 31)) ≤ x1 → ∃ n14, wp_X2_findEarly_14 E o post (wp_X2_findEarly_2 E o post n) n14 u x1 0)
set_option maxHeartbeats 4000000 in
set_option maxRecDepth 100000 in
theorem c_X2_findEarly_2 {p : Program} {l : Launch} {e : Env} {s : State} {m : MethodId} {args : Array Value} {below : List Frame} {meth : Method} {c : Code} {G : va_G} {cy : Nat → ClassId} {A : Nat → Prop} {L : Nat → Nat} {E : ms_En} (C : ms_Cx p m c cX2_findEarly 3 s args (Cond.code ⟨"CensusWalk$Search", "findEarly", "()V"⟩ prog_4_method_8_code 3 none) "CensusWalk$Search" G cy A) (hr : meth.sig.returnType = none) (hlocks : meth.locks = false) (hE : ms_WT E) {o : Nat} {post : ms_St → Prop}  (ho : ms_is E o 2)  : ∀ (n : Nat) (u : ms_St) (x1 : Int32), wp_X2_findEarly_2 E o post n u x1 → ms_At p l e ({ frames := 3, cells := 0, slots := 0, locals := 78 } : Room) s m args below meth c 3 G cy A L 0 0 (ms_QV below args s G cy L E A post 0 0) E u 2 [(0, .ref (L o)), (1, .int x1)] [] := by
  intro n
  induction n with
  | zero =>
    intro u x1  h
    exact absurd h id
  | succ n ih =>
    intro u x1  h
    unfold wp_X2_findEarly_2 at h
    refine a_iload_n C dX2_findEarly_2 rfl 1 rfl rfl ?_
    refine a_iconst (v := 1) C dX2_findEarly_3 (by decide) rfl ?_
    refine a_aload_n C dX2_findEarly_4 rfl 0 rfl rfl ?_
    refine g_2_0 C dX2_findEarly_5 ho kw_2_98 rfl ?_
    refine a_ishl C dX2_findEarly_8 rfl ?_
    refine a_icmp_ge (tgt := 63) C dX2_findEarly_9 (by decide) rfl (fun hc => ?_) (fun hc => ?_)
    · replace h := h.1 hc
      exact a_vret C dX2_findEarly_63 hr hlocks (Nat.le_of_ble_eq_true rfl) (Nat.le_of_ble_eq_true rfl) h
    · replace h := h.2 hc
      refine a_iconst (v := 0) C dX2_findEarly_12 (by decide) rfl ?_
      refine a_istore_n (lv' := [(0, .ref (L o)), (1, .int x1), (2, .int 0)]) C dX2_findEarly_13 rfl (by decide) [1, 2, 0] rfl rfl ?_
      obtain ⟨n9, h⟩ := h
      exact c_X2_findEarly_14 C hr hlocks hE ho ih n9 u x1 0  h
def wp_X2_findEarly (E : ms_En) (u : ms_St) (o : Nat) (post : ms_St → Prop) : Prop := ∃ n2, wp_X2_findEarly_2 E o post n2 u 1
set_option maxHeartbeats 4000000 in
set_option maxRecDepth 100000 in
theorem c_X2_findEarly (l : Launch) (G : va_G) (cy : Nat → ClassId) (L : Nat → Nat) (E : ms_En) (hE : ms_WT E) (u : ms_St) (o : Nat) (ho : ms_is E o 2) (post : ms_St → Prop) (h : wp_X2_findEarly E u o post) : ms_MetV l ⟨"CensusWalk$Search", "findEarly", "()V"⟩ (Cond.code ⟨"CensusWalk$Search", "findEarly", "()V"⟩ prog_4_method_8_code 3 none :: lw_g) ({ frames := 3, cells := 0, slots := 0, locals := 78 } : Room) G cy L E [.ref (L o)] u post 0 0 := by
  refine ms_enterV (lv := [(0, .ref (L o))]) (by decide) (Nat.le_of_ble_eq_true rfl) rfl ?_
  intro p e s m args below meth c A C hr hlocks
  unfold wp_X2_findEarly at h
  refine a_iconst (v := 1) C dX2_findEarly_0 (by decide) rfl ?_
  refine a_istore_n (lv' := [(0, .ref (L o)), (1, .int 1)]) C dX2_findEarly_1 rfl (by decide) [1, 0] rfl rfl ?_
  obtain ⟨n9, h⟩ := h
  exact c_X2_findEarly_2 C hr hlocks hE ho  n9 u 1  h

/-! CensusWalk$Search.latestLeave(II)I -/
theorem pd_X2_latestLeave : (⟨"CensusWalk$Search", "latestLeave", "(II)I"⟩ : MethodName).cls = "CensusWalk$Search" ∧ (⟨"CensusWalk$Search", "latestLeave", "(II)I"⟩ : MethodName).cls ≠ "java/lang/invoke/MethodHandle" ∧ (⟨"CensusWalk$Search", "latestLeave", "(II)I"⟩ : MethodName).cls ≠ "java/lang/invoke/VarHandle" ∧ (parseMethodDescriptor (⟨"CensusWalk$Search", "latestLeave", "(II)I"⟩ : MethodName).desc).map (fun d => d.parameters.length) = some 2 := by decide +kernel
def wp_X2_latestLeave_78 (E : ms_En) (o : Nat) (a1 : Int32) (a2 : Int32) (post : Int32 → ms_St → Prop) (k5 : ms_St → Int32 → Int32 → Prop) (u : ms_St) (x3 : Int32) (x4 : Int32) : Prop := k5 u x3 (x4 + 1)
set_option maxHeartbeats 4000000 in
set_option maxRecDepth 100000 in
theorem c_X2_latestLeave_78 {p : Program} {l : Launch} {e : Env} {s : State} {m : MethodId} {args : Array Value} {below : List Frame} {meth : Method} {c : Code} {G : va_G} {cy : Nat → ClassId} {A : Nat → Prop} {L : Nat → Nat} {E : ms_En} (C : ms_Cx p m c cX2_latestLeave 7 s args (Cond.code ⟨"CensusWalk$Search", "latestLeave", "(II)I"⟩ prog_4_method_15_code 7 (some .int)) "CensusWalk$Search" G cy A) (hr : meth.sig.returnType = (some .int)) (hlocks : meth.locks = false) (hE : ms_WT E) {o : Nat} {a1 : Int32} {a2 : Int32} {post : Int32 → ms_St → Prop} {k5 : ms_St → Int32 → Int32 → Prop} (ho : ms_is E o 2) (hk5 : ∀ (u : ms_St) (x3 : Int32) (x4 : Int32), k5 u x3 x4 → ms_At p l e ({ frames := 2, cells := 0, slots := 0, locals := 53 } : Room) s m args below meth c 7 G cy A L 0 0 (ms_QI below args s G cy L E A post 0 0) E u 5 [(0, .ref (L o)), (1, .int a1), (2, .int a2), (3, .int x3), (4, .int x4)] []) (u : ms_St) (x3 : Int32) (x4 : Int32)  (h : wp_X2_latestLeave_78 E o a1 a2 post k5 u x3 x4) : ms_At p l e ({ frames := 2, cells := 0, slots := 0, locals := 53 } : Room) s m args below meth c 7 G cy A L 0 0 (ms_QI below args s G cy L E A post 0 0) E u 78 [(0, .ref (L o)), (1, .int a1), (2, .int a2), (3, .int x3), (4, .int x4)] [] := by
  unfold wp_X2_latestLeave_78 at h
  refine a_iinc (lv' := [(0, .ref (L o)), (1, .int a1), (2, .int a2), (3, .int x3), (4, .int (x4 + 1))]) (v := (x4 + 1)) C dX2_latestLeave_78 4 rfl (congrArg (fun z => x4 + z) (by decide)) (by decide) [1, 2, 3, 4, 0] rfl rfl ?_
  refine a_goto (tgt := 5) C dX2_latestLeave_81 (by decide) ?_
  exact hk5 u x3 (x4 + 1)  h
def wp_X2_latestLeave_5 (E : ms_En) (o : Nat) (a1 : Int32) (a2 : Int32) (post : Int32 → ms_St → Prop)  : Nat → ms_St → Int32 → Int32 → Prop
  | 0 => fun _ _ _ => False
  | n + 1 => fun u x3 x4 => ((ms_I u o 0) ≤ x4 → post x3 u) ∧ (¬ (ms_I u o 0) ≤ x4 → vp_in ((a2 * 8) + x4) 64 ∧ (∀ v26 : Int32, v26 = (ms_I u (ms_at E o 7) (Int32.toNatClampNeg ((a2 * 8) + x4))) → (wp_X10_contains E u a1 x4 (fun r31 u31 => (r31 = 0 → wp_X2_latestLeave_78 E o a1 a2 post (wp_X2_latestLeave_5 E o a1 a2 post n) u31 x3 x4) ∧ (¬ r31 = 0 → (v26 = (-1) → wp_X2_latestLeave_78 E o a1 a2 post (wp_X2_latestLeave_5 E o a1 a2 post n) u31 x3 x4) ∧ (¬ v26 = (-1) → vp_in (((a1 ^^^ (1 <<< (x4 &&& 31))) * 8) + x4) 2048 ∧ (wp_X2_latestCall E u31 o x4 (ms_I u31 (ms_at E o 11) (Int32.toNatClampNeg (((a1 ^^^ (1 <<< (x4 &&& 31))) * 8) + x4))) (fun r63 u63 => ∀ v77 : Int32, v77 = (if x3 < (r63 - v26) then (r63 - v26) else x3) → (wp_X2_latestLeave_78 E o a1 a2 post (wp_X2_latestLeave_5 E o a1 a2 post n) u63 v77 x4)))))))))
set_option maxHeartbeats 4000000 in
set_option maxRecDepth 100000 in
theorem c_X2_latestLeave_5 {p : Program} {l : Launch} {e : Env} {s : State} {m : MethodId} {args : Array Value} {below : List Frame} {meth : Method} {c : Code} {G : va_G} {cy : Nat → ClassId} {A : Nat → Prop} {L : Nat → Nat} {E : ms_En} (C : ms_Cx p m c cX2_latestLeave 7 s args (Cond.code ⟨"CensusWalk$Search", "latestLeave", "(II)I"⟩ prog_4_method_15_code 7 (some .int)) "CensusWalk$Search" G cy A) (hr : meth.sig.returnType = (some .int)) (hlocks : meth.locks = false) (hE : ms_WT E) {o : Nat} {a1 : Int32} {a2 : Int32} {post : Int32 → ms_St → Prop}  (ho : ms_is E o 2)  : ∀ (n : Nat) (u : ms_St) (x3 : Int32) (x4 : Int32), wp_X2_latestLeave_5 E o a1 a2 post n u x3 x4 → ms_At p l e ({ frames := 2, cells := 0, slots := 0, locals := 53 } : Room) s m args below meth c 7 G cy A L 0 0 (ms_QI below args s G cy L E A post 0 0) E u 5 [(0, .ref (L o)), (1, .int a1), (2, .int a2), (3, .int x3), (4, .int x4)] [] := by
  intro n
  induction n with
  | zero =>
    intro u x3 x4  h
    exact absurd h id
  | succ n ih =>
    intro u x3 x4  h
    unfold wp_X2_latestLeave_5 at h
    refine a_iload C dX2_latestLeave_5 4 rfl rfl ?_
    refine a_aload_n C dX2_latestLeave_7 rfl 0 rfl rfl ?_
    refine g_2_0 C dX2_latestLeave_8 ho kw_2_98 rfl ?_
    refine a_icmp_ge (tgt := 84) C dX2_latestLeave_11 (by decide) rfl (fun hc => ?_) (fun hc => ?_)
    · replace h := h.1 hc
      refine a_iload_n C dX2_latestLeave_84 rfl 3 rfl rfl ?_
      exact a_iret C dX2_latestLeave_85 hr hlocks (Nat.le_of_ble_eq_true rfl) (Nat.le_of_ble_eq_true rfl) h
    · replace h := h.2 hc
      refine a_aload_n C dX2_latestLeave_14 rfl 0 rfl rfl ?_
      refine g_2_7 C hE dX2_latestLeave_15 ho kw_2_108 rfl ?_
      have k15 : ms_is E (ms_at E o 7) 13 := ms_wt hE ho rfl (by decide)
      have n15 : ms_N E (ms_at E o 7) = 64 := ms_wl hE ho (by decide) (by decide) rfl
      refine a_iload_n C dX2_latestLeave_18 rfl 2 rfl rfl ?_
      refine a_bipush (v := 8) C dX2_latestLeave_19 (by decide) rfl ?_
      refine a_imul C dX2_latestLeave_21 rfl ?_
      refine a_iload C dX2_latestLeave_22 4 rfl rfl ?_
      refine a_iadd C dX2_latestLeave_24 rfl ?_
      obtain ⟨q25, h⟩ := h
      refine a_iald C dX2_latestLeave_25 k15 n15 q25 rfl ?_
      refine a_nmI (fun v26 e26 => ?_)
      replace h := h v26 e26
      refine a_istore (lv' := [(0, .ref (L o)), (1, .int a1), (2, .int a2), (3, .int x3), (4, .int x4), (5, .int v26)]) C dX2_latestLeave_26 (by decide) [1, 2, 3, 4, 5, 0] rfl rfl ?_
      refine a_iload_n C dX2_latestLeave_28 rfl 1 rfl rfl ?_
      refine a_iload C dX2_latestLeave_29 4 rfl rfl ?_
      refine a_callNI C (c_X10_contains l G cy L E hE u a1 x4  _ h) (List.mem_of_getElem? (i := 12) rfl) kw_3_73 kw_1_1 kw_3_74 rfl rfl pd_X10_contains ⟨(Nat.le_of_ble_eq_true rfl), (Nat.le_of_ble_eq_true rfl)⟩ dX2_latestLeave_31 rfl (Nat.le_of_ble_eq_true rfl) ⟨(Nat.le_of_ble_eq_true rfl), (Nat.le_of_ble_eq_true rfl)⟩ rfl (fun r31 u31 h => ?_)
      refine a_if_eq (tgt := 78) C dX2_latestLeave_34 (by decide) rfl (fun hc => ?_) (fun hc => ?_)
      · replace h := h.1 hc
        refine a_sub (lv' := [(0, .ref (L o)), (1, .int a1), (2, .int a2), (3, .int x3), (4, .int x4)]) [0, 1, 2, 3, 4] rfl ?_
        exact c_X2_latestLeave_78 C hr hlocks hE ho ih u31 x3 x4  h
      · replace h := h.2 hc
        refine a_iload C dX2_latestLeave_37 5 rfl rfl ?_
        refine a_iconst (v := (-1)) C dX2_latestLeave_39 (by decide) rfl ?_
        refine a_icmp_eq (tgt := 78) C dX2_latestLeave_40 (by decide) rfl (fun hc => ?_) (fun hc => ?_)
        · replace h := h.1 hc
          refine a_sub (lv' := [(0, .ref (L o)), (1, .int a1), (2, .int a2), (3, .int x3), (4, .int x4)]) [0, 1, 2, 3, 4] rfl ?_
          exact c_X2_latestLeave_78 C hr hlocks hE ho ih u31 x3 x4  h
        · replace h := h.2 hc
          refine a_aload_n C dX2_latestLeave_43 rfl 0 rfl rfl ?_
          refine a_iload C dX2_latestLeave_44 4 rfl rfl ?_
          refine a_aload_n C dX2_latestLeave_46 rfl 0 rfl rfl ?_
          refine g_2_11 C hE dX2_latestLeave_47 ho kw_2_112 rfl ?_
          have k47 : ms_is E (ms_at E o 11) 13 := ms_wt hE ho rfl (by decide)
          have n47 : ms_N E (ms_at E o 11) = 2048 := ms_wl hE ho (by decide) (by decide) rfl
          refine a_iload_n C dX2_latestLeave_50 rfl 1 rfl rfl ?_
          refine a_iconst (v := 1) C dX2_latestLeave_51 (by decide) rfl ?_
          refine a_iload C dX2_latestLeave_52 4 rfl rfl ?_
          refine a_ishl C dX2_latestLeave_54 rfl ?_
          refine a_ixor C dX2_latestLeave_55 rfl ?_
          refine a_bipush (v := 8) C dX2_latestLeave_56 (by decide) rfl ?_
          refine a_imul C dX2_latestLeave_58 rfl ?_
          refine a_iload C dX2_latestLeave_59 4 rfl rfl ?_
          refine a_iadd C dX2_latestLeave_61 rfl ?_
          obtain ⟨q62, h⟩ := h
          refine a_iald C dX2_latestLeave_62 k47 n47 q62 rfl ?_
          refine a_callVI C (c_X2_latestCall l G cy L E hE u31 o x4 (ms_I u31 (ms_at E o 11) (Int32.toNatClampNeg (((a1 ^^^ (1 <<< (x4 &&& 31))) * 8) + x4))) ho _ h) ho rfl (by decide) kw_5_117 kw_5_119 kp_38 kw_1_11 kw_5_120 rfl rfl pd_X2_latestCall ⟨(Nat.le_of_ble_eq_true rfl), (Nat.le_of_ble_eq_true rfl)⟩ dX2_latestLeave_63 rfl (Nat.le_of_ble_eq_true rfl) ⟨(Nat.le_of_ble_eq_true rfl), (Nat.le_of_ble_eq_true rfl)⟩ rfl (fun r63 u63 h => ?_)
          refine a_istore (lv' := [(0, .ref (L o)), (1, .int a1), (2, .int a2), (3, .int x3), (4, .int x4), (5, .int v26), (6, .int r63)]) C dX2_latestLeave_66 (by decide) [1, 2, 3, 4, 5, 6, 0] rfl rfl ?_
          refine a_iload_n C dX2_latestLeave_68 rfl 3 rfl rfl ?_
          refine a_iload C dX2_latestLeave_69 6 rfl rfl ?_
          refine a_iload C dX2_latestLeave_71 5 rfl rfl ?_
          refine a_isub C dX2_latestLeave_73 rfl ?_
          refine a_mmax C dX2_latestLeave_74 kw_5_88 kw_3_61 kw_1_17 kw_3_62 (Nat.le_of_ble_eq_true rfl) (Nat.le_of_ble_eq_true rfl) (Nat.le_of_ble_eq_true rfl) (Nat.le_of_ble_eq_true rfl) rfl ?_
          refine a_nmI (fun v77 e77 => ?_)
          replace h := h v77 e77
          refine a_istore_n (lv' := [(0, .ref (L o)), (1, .int a1), (2, .int a2), (3, .int v77), (4, .int x4), (5, .int v26), (6, .int r63)]) C dX2_latestLeave_77 rfl (by decide) [1, 2, 3, 0, 4, 5, 6] rfl rfl ?_
          refine a_sub (lv' := [(0, .ref (L o)), (1, .int a1), (2, .int a2), (3, .int v77), (4, .int x4)]) [0, 1, 2, 3, 4] rfl ?_
          exact c_X2_latestLeave_78 C hr hlocks hE ho ih u63 v77 x4  h
def wp_X2_latestLeave (E : ms_En) (u : ms_St) (o : Nat) (a1 : Int32) (a2 : Int32) (post : Int32 → ms_St → Prop) : Prop := ∃ n5, wp_X2_latestLeave_5 E o a1 a2 post n5 u (-1) 0
set_option maxHeartbeats 4000000 in
set_option maxRecDepth 100000 in
theorem c_X2_latestLeave (l : Launch) (G : va_G) (cy : Nat → ClassId) (L : Nat → Nat) (E : ms_En) (hE : ms_WT E) (u : ms_St) (o : Nat) (a1 : Int32) (a2 : Int32) (ho : ms_is E o 2) (post : Int32 → ms_St → Prop) (h : wp_X2_latestLeave E u o a1 a2 post) : ms_MetI l ⟨"CensusWalk$Search", "latestLeave", "(II)I"⟩ (Cond.code ⟨"CensusWalk$Search", "latestLeave", "(II)I"⟩ prog_4_method_15_code 7 (some .int) :: lw_g) ({ frames := 2, cells := 0, slots := 0, locals := 53 } : Room) G cy L E [.ref (L o), .int a1, .int a2] u post 0 0 := by
  refine ms_enterI (lv := [(0, .ref (L o)), (1, .int a1), (2, .int a2)]) (by decide) (Nat.le_of_ble_eq_true rfl) rfl ?_
  intro p e s m args below meth c A C hr hlocks
  unfold wp_X2_latestLeave at h
  refine a_iconst (v := (-1)) C dX2_latestLeave_0 (by decide) rfl ?_
  refine a_istore_n (lv' := [(0, .ref (L o)), (1, .int a1), (2, .int a2), (3, .int (-1))]) C dX2_latestLeave_1 rfl (by decide) [1, 2, 3, 0] rfl rfl ?_
  refine a_iconst (v := 0) C dX2_latestLeave_2 (by decide) rfl ?_
  refine a_istore (lv' := [(0, .ref (L o)), (1, .int a1), (2, .int a2), (3, .int (-1)), (4, .int 0)]) C dX2_latestLeave_3 (by decide) [1, 2, 3, 4, 0] rfl rfl ?_
  obtain ⟨n9, h⟩ := h
  exact c_X2_latestLeave_5 C hr hlocks hE ho  n9 u (-1) 0  h

/-! CensusWalk$Search.findLate(I)V -/
theorem pd_X2_findLate : (⟨"CensusWalk$Search", "findLate", "(I)V"⟩ : MethodName).cls = "CensusWalk$Search" ∧ (⟨"CensusWalk$Search", "findLate", "(I)V"⟩ : MethodName).cls ≠ "java/lang/invoke/MethodHandle" ∧ (⟨"CensusWalk$Search", "findLate", "(I)V"⟩ : MethodName).cls ≠ "java/lang/invoke/VarHandle" ∧ (parseMethodDescriptor (⟨"CensusWalk$Search", "findLate", "(I)V"⟩ : MethodName).desc).map (fun d => d.parameters.length) = some 1 := by decide +kernel
def wp_X2_findLate_55 (E : ms_En) (o : Nat) (a1 : Int32) (post : ms_St → Prop) (k2 : ms_St → Int32 → Prop) (k14 : ms_St → Int32 → Int32 → Prop) (u : ms_St) (x2 : Int32) (x3 : Int32) : Prop := k14 u x2 (x3 + 1)
set_option maxHeartbeats 4000000 in
set_option maxRecDepth 100000 in
theorem c_X2_findLate_55 {p : Program} {l : Launch} {e : Env} {s : State} {m : MethodId} {args : Array Value} {below : List Frame} {meth : Method} {c : Code} {G : va_G} {cy : Nat → ClassId} {A : Nat → Prop} {L : Nat → Nat} {E : ms_En} (C : ms_Cx p m c cX2_findLate 4 s args (Cond.code ⟨"CensusWalk$Search", "findLate", "(I)V"⟩ prog_4_method_14_code 4 none) "CensusWalk$Search" G cy A) (hr : meth.sig.returnType = none) (hlocks : meth.locks = false) (hE : ms_WT E) {o : Nat} {a1 : Int32} {post : ms_St → Prop} {k2 : ms_St → Int32 → Prop} {k14 : ms_St → Int32 → Int32 → Prop} (ho : ms_is E o 2) (hk2 : ∀ (u : ms_St) (x2 : Int32), k2 u x2 → ms_At p l e ({ frames := 3, cells := 0, slots := 0, locals := 79 } : Room) s m args below meth c 4 G cy A L 0 0 (ms_QV below args s G cy L E A post 0 0) E u 2 [(0, .ref (L o)), (1, .int a1), (2, .int x2)] []) (hk14 : ∀ (u : ms_St) (x2 : Int32) (x3 : Int32), k14 u x2 x3 → ms_At p l e ({ frames := 3, cells := 0, slots := 0, locals := 79 } : Room) s m args below meth c 4 G cy A L 0 0 (ms_QV below args s G cy L E A post 0 0) E u 14 [(0, .ref (L o)), (1, .int a1), (2, .int x2), (3, .int x3)] []) (u : ms_St) (x2 : Int32) (x3 : Int32)  (h : wp_X2_findLate_55 E o a1 post k2 k14 u x2 x3) : ms_At p l e ({ frames := 3, cells := 0, slots := 0, locals := 79 } : Room) s m args below meth c 4 G cy A L 0 0 (ms_QV below args s G cy L E A post 0 0) E u 55 [(0, .ref (L o)), (1, .int a1), (2, .int x2), (3, .int x3)] [] := by
  unfold wp_X2_findLate_55 at h
  refine a_iinc (lv' := [(0, .ref (L o)), (1, .int a1), (2, .int x2), (3, .int (x3 + 1))]) (v := (x3 + 1)) C dX2_findLate_55 3 rfl (congrArg (fun z => x3 + z) (by decide)) (by decide) [1, 2, 3, 0] rfl rfl ?_
  refine a_goto (tgt := 14) C dX2_findLate_58 (by decide) ?_
  exact hk14 u x2 (x3 + 1)  h
def wp_X2_findLate_54 (E : ms_En) (o : Nat) (a1 : Int32) (post : ms_St → Prop) (k2 : ms_St → Int32 → Prop) (k14 : ms_St → Int32 → Int32 → Prop) (u : ms_St) (x2 : Int32) (x3 : Int32) (z0 : Int32) (z1 : Int32) (z2 : Nat) : Prop := vp_in z1 2048 ∧ (wp_X2_findLate_55 E o a1 post k2 k14 (ms_sI u z2 (Int32.toNatClampNeg z1) z0) x2 x3)
set_option maxHeartbeats 4000000 in
set_option maxRecDepth 100000 in
theorem c_X2_findLate_54 {p : Program} {l : Launch} {e : Env} {s : State} {m : MethodId} {args : Array Value} {below : List Frame} {meth : Method} {c : Code} {G : va_G} {cy : Nat → ClassId} {A : Nat → Prop} {L : Nat → Nat} {E : ms_En} (C : ms_Cx p m c cX2_findLate 4 s args (Cond.code ⟨"CensusWalk$Search", "findLate", "(I)V"⟩ prog_4_method_14_code 4 none) "CensusWalk$Search" G cy A) (hr : meth.sig.returnType = none) (hlocks : meth.locks = false) (hE : ms_WT E) {o : Nat} {a1 : Int32} {post : ms_St → Prop} {k2 : ms_St → Int32 → Prop} {k14 : ms_St → Int32 → Int32 → Prop} (ho : ms_is E o 2) (hk2 : ∀ (u : ms_St) (x2 : Int32), k2 u x2 → ms_At p l e ({ frames := 3, cells := 0, slots := 0, locals := 79 } : Room) s m args below meth c 4 G cy A L 0 0 (ms_QV below args s G cy L E A post 0 0) E u 2 [(0, .ref (L o)), (1, .int a1), (2, .int x2)] []) (hk14 : ∀ (u : ms_St) (x2 : Int32) (x3 : Int32), k14 u x2 x3 → ms_At p l e ({ frames := 3, cells := 0, slots := 0, locals := 79 } : Room) s m args below meth c 4 G cy A L 0 0 (ms_QV below args s G cy L E A post 0 0) E u 14 [(0, .ref (L o)), (1, .int a1), (2, .int x2), (3, .int x3)] []) (u : ms_St) (x2 : Int32) (x3 : Int32) (z0 : Int32) (z1 : Int32) (z2 : Nat) (k_z2 : ms_is E z2 13) (n_z2 : ms_N E z2 = 2048) (h : wp_X2_findLate_54 E o a1 post k2 k14 u x2 x3 z0 z1 z2) : ms_At p l e ({ frames := 3, cells := 0, slots := 0, locals := 79 } : Room) s m args below meth c 4 G cy A L 0 0 (ms_QV below args s G cy L E A post 0 0) E u 54 [(0, .ref (L o)), (1, .int a1), (2, .int x2), (3, .int x3)] [.int z0, .int z1, .ref (L z2)] := by
  unfold wp_X2_findLate_54 at h
  obtain ⟨q54, h⟩ := h
  refine a_iast C dX2_findLate_54 k_z2 n_z2 q54 rfl ?_
  exact c_X2_findLate_55 C hr hlocks hE ho hk2 hk14 (ms_sI u z2 (Int32.toNatClampNeg z1) z0) x2 x3  h
def wp_X2_findLate_14 (E : ms_En) (o : Nat) (a1 : Int32) (post : ms_St → Prop) (k2 : ms_St → Int32 → Prop) : Nat → ms_St → Int32 → Int32 → Prop
  | 0 => fun _ _ _ => False
  | n + 1 => fun u x2 x3 => ((ms_I u o 0) ≤ x3 → k2 u (x2 + 1)) ∧ (¬ (ms_I u o 0) ≤ x3 → wp_X10_contains E u x2 x3 (fun r24 u24 => (r24 = 0 → (x2 = 0 → wp_X2_findLate_54 E o a1 post k2 (wp_X2_findLate_14 E o a1 post k2 n) u24 x2 x3 a1 ((x2 * 8) + x3) (ms_at E o 11)) ∧ (¬ x2 = 0 → wp_X2_latestLeave E u24 o x2 x3 (fun r51 u51 => wp_X2_findLate_54 E o a1 post k2 (wp_X2_findLate_14 E o a1 post k2 n) u51 x2 x3 r51 ((x2 * 8) + x3) (ms_at E o 11)))) ∧ (¬ r24 = 0 → wp_X2_findLate_55 E o a1 post k2 (wp_X2_findLate_14 E o a1 post k2 n) u24 x2 x3)))
set_option maxHeartbeats 4000000 in
set_option maxRecDepth 100000 in
theorem c_X2_findLate_14 {p : Program} {l : Launch} {e : Env} {s : State} {m : MethodId} {args : Array Value} {below : List Frame} {meth : Method} {c : Code} {G : va_G} {cy : Nat → ClassId} {A : Nat → Prop} {L : Nat → Nat} {E : ms_En} (C : ms_Cx p m c cX2_findLate 4 s args (Cond.code ⟨"CensusWalk$Search", "findLate", "(I)V"⟩ prog_4_method_14_code 4 none) "CensusWalk$Search" G cy A) (hr : meth.sig.returnType = none) (hlocks : meth.locks = false) (hE : ms_WT E) {o : Nat} {a1 : Int32} {post : ms_St → Prop} {k2 : ms_St → Int32 → Prop} (ho : ms_is E o 2) (hk2 : ∀ (u : ms_St) (x2 : Int32), k2 u x2 → ms_At p l e ({ frames := 3, cells := 0, slots := 0, locals := 79 } : Room) s m args below meth c 4 G cy A L 0 0 (ms_QV below args s G cy L E A post 0 0) E u 2 [(0, .ref (L o)), (1, .int a1), (2, .int x2)] []) : ∀ (n : Nat) (u : ms_St) (x2 : Int32) (x3 : Int32), wp_X2_findLate_14 E o a1 post k2 n u x2 x3 → ms_At p l e ({ frames := 3, cells := 0, slots := 0, locals := 79 } : Room) s m args below meth c 4 G cy A L 0 0 (ms_QV below args s G cy L E A post 0 0) E u 14 [(0, .ref (L o)), (1, .int a1), (2, .int x2), (3, .int x3)] [] := by
  intro n
  induction n with
  | zero =>
    intro u x2 x3  h
    exact absurd h id
  | succ n ih =>
    intro u x2 x3  h
    unfold wp_X2_findLate_14 at h
    refine a_iload_n C dX2_findLate_14 rfl 3 rfl rfl ?_
    refine a_aload_n C dX2_findLate_15 rfl 0 rfl rfl ?_
    refine g_2_0 C dX2_findLate_16 ho kw_2_98 rfl ?_
    refine a_icmp_ge (tgt := 61) C dX2_findLate_19 (by decide) rfl (fun hc => ?_) (fun hc => ?_)
    · replace h := h.1 hc
      refine a_iinc (lv' := [(0, .ref (L o)), (1, .int a1), (2, .int (x2 + 1)), (3, .int x3)]) (v := (x2 + 1)) C dX2_findLate_61 2 rfl (congrArg (fun z => x2 + z) (by decide)) (by decide) [1, 2, 0, 3] rfl rfl ?_
      refine a_goto (tgt := 2) C dX2_findLate_64 (by decide) ?_
      refine a_sub (lv' := [(0, .ref (L o)), (1, .int a1), (2, .int (x2 + 1))]) [0, 1, 2] rfl ?_
      exact hk2 u (x2 + 1)  h
    · replace h := h.2 hc
      refine a_iload_n C dX2_findLate_22 rfl 2 rfl rfl ?_
      refine a_iload_n C dX2_findLate_23 rfl 3 rfl rfl ?_
      refine a_callNI C (c_X10_contains l G cy L E hE u x2 x3  _ h) (List.mem_of_getElem? (i := 12) rfl) kw_3_73 kw_1_1 kw_3_74 rfl rfl pd_X10_contains ⟨(Nat.le_of_ble_eq_true rfl), (Nat.le_of_ble_eq_true rfl)⟩ dX2_findLate_24 rfl (Nat.le_of_ble_eq_true rfl) ⟨(Nat.le_of_ble_eq_true rfl), (Nat.le_of_ble_eq_true rfl)⟩ rfl (fun r24 u24 h => ?_)
      refine a_if_ne (tgt := 55) C dX2_findLate_27 (by decide) rfl (fun hc => ?_) (fun hc => ?_)
      · replace h := h.2 hc
        exact c_X2_findLate_55 C hr hlocks hE ho hk2 ih u24 x2 x3  h
      · replace h := h.1 hc
        refine a_aload_n C dX2_findLate_30 rfl 0 rfl rfl ?_
        refine g_2_11 C hE dX2_findLate_31 ho kw_2_112 rfl ?_
        have k31 : ms_is E (ms_at E o 11) 13 := ms_wt hE ho rfl (by decide)
        have n31 : ms_N E (ms_at E o 11) = 2048 := ms_wl hE ho (by decide) (by decide) rfl
        refine a_iload_n C dX2_findLate_34 rfl 2 rfl rfl ?_
        refine a_bipush (v := 8) C dX2_findLate_35 (by decide) rfl ?_
        refine a_imul C dX2_findLate_37 rfl ?_
        refine a_iload_n C dX2_findLate_38 rfl 3 rfl rfl ?_
        refine a_iadd C dX2_findLate_39 rfl ?_
        refine a_iload_n C dX2_findLate_40 rfl 2 rfl rfl ?_
        refine a_if_ne (tgt := 48) C dX2_findLate_41 (by decide) rfl (fun hc => ?_) (fun hc => ?_)
        · replace h := h.2 hc
          refine a_aload_n C dX2_findLate_48 rfl 0 rfl rfl ?_
          refine a_iload_n C dX2_findLate_49 rfl 2 rfl rfl ?_
          refine a_iload_n C dX2_findLate_50 rfl 3 rfl rfl ?_
          refine a_callVI C (c_X2_latestLeave l G cy L E hE u24 o x2 x3 ho _ h) ho rfl (by decide) kw_5_113 kw_5_115 kp_37 kw_1_11 kw_5_116 rfl rfl pd_X2_latestLeave ⟨(Nat.le_of_ble_eq_true rfl), (Nat.le_of_ble_eq_true rfl)⟩ dX2_findLate_51 rfl (Nat.le_of_ble_eq_true rfl) ⟨(Nat.le_of_ble_eq_true rfl), (Nat.le_of_ble_eq_true rfl)⟩ rfl (fun r51 u51 h => ?_)
          exact c_X2_findLate_54 C hr hlocks hE ho hk2 ih u51 x2 x3 r51 ((x2 * 8) + x3) (ms_at E o 11) k31 n31 h
        · replace h := h.1 hc
          refine a_iload_n C dX2_findLate_44 rfl 1 rfl rfl ?_
          refine a_goto (tgt := 54) C dX2_findLate_45 (by decide) ?_
          exact c_X2_findLate_54 C hr hlocks hE ho hk2 ih u24 x2 x3 a1 ((x2 * 8) + x3) (ms_at E o 11) k31 n31 h
def wp_X2_findLate_2 (E : ms_En) (o : Nat) (a1 : Int32) (post : ms_St → Prop)  : Nat → ms_St → Int32 → Prop
  | 0 => fun _ _ => False
  | n + 1 => fun u x2 => ((1 <<< ((ms_I u o 0) &&& 31)) ≤ x2 → post u) ∧ (¬ (1 <<< ((ms_I u o 0) &&& 31)) ≤ x2 → ∃ n14, wp_X2_findLate_14 E o a1 post (wp_X2_findLate_2 E o a1 post n) n14 u x2 0)
set_option maxHeartbeats 4000000 in
set_option maxRecDepth 100000 in
theorem c_X2_findLate_2 {p : Program} {l : Launch} {e : Env} {s : State} {m : MethodId} {args : Array Value} {below : List Frame} {meth : Method} {c : Code} {G : va_G} {cy : Nat → ClassId} {A : Nat → Prop} {L : Nat → Nat} {E : ms_En} (C : ms_Cx p m c cX2_findLate 4 s args (Cond.code ⟨"CensusWalk$Search", "findLate", "(I)V"⟩ prog_4_method_14_code 4 none) "CensusWalk$Search" G cy A) (hr : meth.sig.returnType = none) (hlocks : meth.locks = false) (hE : ms_WT E) {o : Nat} {a1 : Int32} {post : ms_St → Prop}  (ho : ms_is E o 2)  : ∀ (n : Nat) (u : ms_St) (x2 : Int32), wp_X2_findLate_2 E o a1 post n u x2 → ms_At p l e ({ frames := 3, cells := 0, slots := 0, locals := 79 } : Room) s m args below meth c 4 G cy A L 0 0 (ms_QV below args s G cy L E A post 0 0) E u 2 [(0, .ref (L o)), (1, .int a1), (2, .int x2)] [] := by
  intro n
  induction n with
  | zero =>
    intro u x2  h
    exact absurd h id
  | succ n ih =>
    intro u x2  h
    unfold wp_X2_findLate_2 at h
    refine a_iload_n C dX2_findLate_2 rfl 2 rfl rfl ?_
    refine a_iconst (v := 1) C dX2_findLate_3 (by decide) rfl ?_
    refine a_aload_n C dX2_findLate_4 rfl 0 rfl rfl ?_
    refine g_2_0 C dX2_findLate_5 ho kw_2_98 rfl ?_
    refine a_ishl C dX2_findLate_8 rfl ?_
    refine a_icmp_ge (tgt := 67) C dX2_findLate_9 (by decide) rfl (fun hc => ?_) (fun hc => ?_)
    · replace h := h.1 hc
      exact a_vret C dX2_findLate_67 hr hlocks (Nat.le_of_ble_eq_true rfl) (Nat.le_of_ble_eq_true rfl) h
    · replace h := h.2 hc
      refine a_iconst (v := 0) C dX2_findLate_12 (by decide) rfl ?_
      refine a_istore_n (lv' := [(0, .ref (L o)), (1, .int a1), (2, .int x2), (3, .int 0)]) C dX2_findLate_13 rfl (by decide) [1, 2, 3, 0] rfl rfl ?_
      obtain ⟨n9, h⟩ := h
      exact c_X2_findLate_14 C hr hlocks hE ho ih n9 u x2 0  h
def wp_X2_findLate (E : ms_En) (u : ms_St) (o : Nat) (a1 : Int32) (post : ms_St → Prop) : Prop := ∃ n2, wp_X2_findLate_2 E o a1 post n2 u 0
set_option maxHeartbeats 4000000 in
set_option maxRecDepth 100000 in
theorem c_X2_findLate (l : Launch) (G : va_G) (cy : Nat → ClassId) (L : Nat → Nat) (E : ms_En) (hE : ms_WT E) (u : ms_St) (o : Nat) (a1 : Int32) (ho : ms_is E o 2) (post : ms_St → Prop) (h : wp_X2_findLate E u o a1 post) : ms_MetV l ⟨"CensusWalk$Search", "findLate", "(I)V"⟩ (Cond.code ⟨"CensusWalk$Search", "findLate", "(I)V"⟩ prog_4_method_14_code 4 none :: lw_g) ({ frames := 3, cells := 0, slots := 0, locals := 79 } : Room) G cy L E [.ref (L o), .int a1] u post 0 0 := by
  refine ms_enterV (lv := [(0, .ref (L o)), (1, .int a1)]) (by decide) (Nat.le_of_ble_eq_true rfl) rfl ?_
  intro p e s m args below meth c A C hr hlocks
  unfold wp_X2_findLate at h
  refine a_iconst (v := 0) C dX2_findLate_0 (by decide) rfl ?_
  refine a_istore_n (lv' := [(0, .ref (L o)), (1, .int a1), (2, .int 0)]) C dX2_findLate_1 rfl (by decide) [1, 2, 0] rfl rfl ?_
  obtain ⟨n9, h⟩ := h
  exact c_X2_findLate_2 C hr hlocks hE ho  n9 u 0  h

/-! CensusWalk$Search.firstInTime(III)I -/
theorem pd_X2_firstInTime : (⟨"CensusWalk$Search", "firstInTime", "(III)I"⟩ : MethodName).cls = "CensusWalk$Search" ∧ (⟨"CensusWalk$Search", "firstInTime", "(III)I"⟩ : MethodName).cls ≠ "java/lang/invoke/MethodHandle" ∧ (⟨"CensusWalk$Search", "firstInTime", "(III)I"⟩ : MethodName).cls ≠ "java/lang/invoke/VarHandle" ∧ (parseMethodDescriptor (⟨"CensusWalk$Search", "firstInTime", "(III)I"⟩ : MethodName).desc).map (fun d => d.parameters.length) = some 3 := by decide +kernel
def wp_X2_firstInTime_68 (E : ms_En) (o : Nat) (a1 : Int32) (a2 : Int32) (a3 : Int32) (post : Int32 → ms_St → Prop) (k3 : ms_St → Int32 → Prop) (u : ms_St) (x4 : Int32) : Prop := k3 u (x4 + 1)
set_option maxHeartbeats 4000000 in
set_option maxRecDepth 100000 in
theorem c_X2_firstInTime_68 {p : Program} {l : Launch} {e : Env} {s : State} {m : MethodId} {args : Array Value} {below : List Frame} {meth : Method} {c : Code} {G : va_G} {cy : Nat → ClassId} {A : Nat → Prop} {L : Nat → Nat} {E : ms_En} (C : ms_Cx p m c cX2_firstInTime 6 s args (Cond.code ⟨"CensusWalk$Search", "firstInTime", "(III)I"⟩ prog_4_method_17_code 6 (some .int)) "CensusWalk$Search" G cy A) (hr : meth.sig.returnType = (some .int)) (hlocks : meth.locks = false) (hE : ms_WT E) {o : Nat} {a1 : Int32} {a2 : Int32} {a3 : Int32} {post : Int32 → ms_St → Prop} {k3 : ms_St → Int32 → Prop} (ho : ms_is E o 2) (hk3 : ∀ (u : ms_St) (x4 : Int32), k3 u x4 → ms_At p l e ({ frames := 2, cells := 0, slots := 0, locals := 53 } : Room) s m args below meth c 6 G cy A L 0 0 (ms_QI below args s G cy L E A post 0 0) E u 3 [(0, .ref (L o)), (1, .int a1), (2, .int a2), (3, .int a3), (4, .int x4)] []) (u : ms_St) (x4 : Int32)  (h : wp_X2_firstInTime_68 E o a1 a2 a3 post k3 u x4) : ms_At p l e ({ frames := 2, cells := 0, slots := 0, locals := 53 } : Room) s m args below meth c 6 G cy A L 0 0 (ms_QI below args s G cy L E A post 0 0) E u 68 [(0, .ref (L o)), (1, .int a1), (2, .int a2), (3, .int a3), (4, .int x4)] [] := by
  unfold wp_X2_firstInTime_68 at h
  refine a_iinc (lv' := [(0, .ref (L o)), (1, .int a1), (2, .int a2), (3, .int a3), (4, .int (x4 + 1))]) (v := (x4 + 1)) C dX2_firstInTime_68 4 rfl (congrArg (fun z => x4 + z) (by decide)) (by decide) [1, 2, 3, 4, 0] rfl rfl ?_
  refine a_goto (tgt := 3) C dX2_firstInTime_71 (by decide) ?_
  exact hk3 u (x4 + 1)  h
def wp_X2_firstInTime_3 (E : ms_En) (o : Nat) (a1 : Int32) (a2 : Int32) (a3 : Int32) (post : Int32 → ms_St → Prop)  : Nat → ms_St → Int32 → Prop
  | 0 => fun _ _ => False
  | n + 1 => fun u x4 => ((ms_I u o 0) ≤ x4 → post (-1) u) ∧ (¬ (ms_I u o 0) ≤ x4 → wp_X10_contains E u a1 x4 (fun r15 u15 => (r15 = 0 → wp_X2_firstInTime_68 E o a1 a2 a3 post (wp_X2_firstInTime_3 E o a1 a2 a3 post n) u15 x4) ∧ (¬ r15 = 0 → wp_X2_wayTo E u15 o a2 x4 (fun r28 u28 => wp_X2_visitEnd E u28 o x4 r28 a3 (fun r32 u32 => (r32 = (-1) → wp_X2_firstInTime_68 E o a1 a2 a3 post (wp_X2_firstInTime_3 E o a1 a2 a3 post n) u32 x4) ∧ (¬ r32 = (-1) → vp_in (((a1 ^^^ (1 <<< (x4 &&& 31))) * 8) + x4) 2048 ∧ (((ms_I u32 (ms_at E o 11) (Int32.toNatClampNeg (((a1 ^^^ (1 <<< (x4 &&& 31))) * 8) + x4))) < r32 → wp_X2_firstInTime_68 E o a1 a2 a3 post (wp_X2_firstInTime_3 E o a1 a2 a3 post n) u32 x4) ∧ (¬ (ms_I u32 (ms_at E o 11) (Int32.toNatClampNeg (((a1 ^^^ (1 <<< (x4 &&& 31))) * 8) + x4))) < r32 → post x4 u32))))))))
set_option maxHeartbeats 4000000 in
set_option maxRecDepth 100000 in
theorem c_X2_firstInTime_3 {p : Program} {l : Launch} {e : Env} {s : State} {m : MethodId} {args : Array Value} {below : List Frame} {meth : Method} {c : Code} {G : va_G} {cy : Nat → ClassId} {A : Nat → Prop} {L : Nat → Nat} {E : ms_En} (C : ms_Cx p m c cX2_firstInTime 6 s args (Cond.code ⟨"CensusWalk$Search", "firstInTime", "(III)I"⟩ prog_4_method_17_code 6 (some .int)) "CensusWalk$Search" G cy A) (hr : meth.sig.returnType = (some .int)) (hlocks : meth.locks = false) (hE : ms_WT E) {o : Nat} {a1 : Int32} {a2 : Int32} {a3 : Int32} {post : Int32 → ms_St → Prop}  (ho : ms_is E o 2)  : ∀ (n : Nat) (u : ms_St) (x4 : Int32), wp_X2_firstInTime_3 E o a1 a2 a3 post n u x4 → ms_At p l e ({ frames := 2, cells := 0, slots := 0, locals := 53 } : Room) s m args below meth c 6 G cy A L 0 0 (ms_QI below args s G cy L E A post 0 0) E u 3 [(0, .ref (L o)), (1, .int a1), (2, .int a2), (3, .int a3), (4, .int x4)] [] := by
  intro n
  induction n with
  | zero =>
    intro u x4  h
    exact absurd h id
  | succ n ih =>
    intro u x4  h
    unfold wp_X2_firstInTime_3 at h
    refine a_iload C dX2_firstInTime_3 4 rfl rfl ?_
    refine a_aload_n C dX2_firstInTime_5 rfl 0 rfl rfl ?_
    refine g_2_0 C dX2_firstInTime_6 ho kw_2_98 rfl ?_
    refine a_icmp_ge (tgt := 74) C dX2_firstInTime_9 (by decide) rfl (fun hc => ?_) (fun hc => ?_)
    · replace h := h.1 hc
      refine a_iconst (v := (-1)) C dX2_firstInTime_74 (by decide) rfl ?_
      exact a_iret C dX2_firstInTime_75 hr hlocks (Nat.le_of_ble_eq_true rfl) (Nat.le_of_ble_eq_true rfl) h
    · replace h := h.2 hc
      refine a_iload_n C dX2_firstInTime_12 rfl 1 rfl rfl ?_
      refine a_iload C dX2_firstInTime_13 4 rfl rfl ?_
      refine a_callNI C (c_X10_contains l G cy L E hE u a1 x4  _ h) (List.mem_of_getElem? (i := 12) rfl) kw_3_73 kw_1_1 kw_3_74 rfl rfl pd_X10_contains ⟨(Nat.le_of_ble_eq_true rfl), (Nat.le_of_ble_eq_true rfl)⟩ dX2_firstInTime_15 rfl (Nat.le_of_ble_eq_true rfl) ⟨(Nat.le_of_ble_eq_true rfl), (Nat.le_of_ble_eq_true rfl)⟩ rfl (fun r15 u15 h => ?_)
      refine a_if_eq (tgt := 68) C dX2_firstInTime_18 (by decide) rfl (fun hc => ?_) (fun hc => ?_)
      · replace h := h.1 hc
        exact c_X2_firstInTime_68 C hr hlocks hE ho ih u15 x4  h
      · replace h := h.2 hc
        refine a_aload_n C dX2_firstInTime_21 rfl 0 rfl rfl ?_
        refine a_iload C dX2_firstInTime_22 4 rfl rfl ?_
        refine a_aload_n C dX2_firstInTime_24 rfl 0 rfl rfl ?_
        refine a_iload_n C dX2_firstInTime_25 rfl 2 rfl rfl ?_
        refine a_iload C dX2_firstInTime_26 4 rfl rfl ?_
        refine a_callVI C (c_X2_wayTo l G cy L E hE u15 o a2 x4 ho _ h) ho rfl (by decide) kw_5_125 kw_5_127 kp_40 kw_1_11 kw_5_128 rfl rfl pd_X2_wayTo ⟨(Nat.le_of_ble_eq_true rfl), (Nat.le_of_ble_eq_true rfl)⟩ dX2_firstInTime_28 rfl (Nat.le_of_ble_eq_true rfl) ⟨(Nat.le_of_ble_eq_true rfl), (Nat.le_of_ble_eq_true rfl)⟩ rfl (fun r28 u28 h => ?_)
        refine a_iload_n C dX2_firstInTime_31 rfl 3 rfl rfl ?_
        refine a_callVI C (c_X2_visitEnd l G cy L E hE u28 o x4 r28 a3 ho _ h) ho rfl (by decide) kw_5_84 kw_5_86 kp_34 kw_1_11 kw_5_87 rfl rfl pd_X2_visitEnd ⟨(Nat.le_of_ble_eq_true rfl), (Nat.le_of_ble_eq_true rfl)⟩ dX2_firstInTime_32 rfl (Nat.le_of_ble_eq_true rfl) ⟨(Nat.le_of_ble_eq_true rfl), (Nat.le_of_ble_eq_true rfl)⟩ rfl (fun r32 u32 h => ?_)
        refine a_istore (lv' := [(0, .ref (L o)), (1, .int a1), (2, .int a2), (3, .int a3), (4, .int x4), (5, .int r32)]) C dX2_firstInTime_35 (by decide) [1, 2, 3, 4, 5, 0] rfl rfl ?_
        refine a_iload C dX2_firstInTime_37 5 rfl rfl ?_
        refine a_iconst (v := (-1)) C dX2_firstInTime_39 (by decide) rfl ?_
        refine a_icmp_eq (tgt := 68) C dX2_firstInTime_40 (by decide) rfl (fun hc => ?_) (fun hc => ?_)
        · replace h := h.1 hc
          refine a_sub (lv' := [(0, .ref (L o)), (1, .int a1), (2, .int a2), (3, .int a3), (4, .int x4)]) [0, 1, 2, 3, 4] rfl ?_
          exact c_X2_firstInTime_68 C hr hlocks hE ho ih u32 x4  h
        · replace h := h.2 hc
          refine a_iload C dX2_firstInTime_43 5 rfl rfl ?_
          refine a_aload_n C dX2_firstInTime_45 rfl 0 rfl rfl ?_
          refine g_2_11 C hE dX2_firstInTime_46 ho kw_2_112 rfl ?_
          have k46 : ms_is E (ms_at E o 11) 13 := ms_wt hE ho rfl (by decide)
          have n46 : ms_N E (ms_at E o 11) = 2048 := ms_wl hE ho (by decide) (by decide) rfl
          refine a_iload_n C dX2_firstInTime_49 rfl 1 rfl rfl ?_
          refine a_iconst (v := 1) C dX2_firstInTime_50 (by decide) rfl ?_
          refine a_iload C dX2_firstInTime_51 4 rfl rfl ?_
          refine a_ishl C dX2_firstInTime_53 rfl ?_
          refine a_ixor C dX2_firstInTime_54 rfl ?_
          refine a_bipush (v := 8) C dX2_firstInTime_55 (by decide) rfl ?_
          refine a_imul C dX2_firstInTime_57 rfl ?_
          refine a_iload C dX2_firstInTime_58 4 rfl rfl ?_
          refine a_iadd C dX2_firstInTime_60 rfl ?_
          obtain ⟨q61, h⟩ := h
          refine a_iald C dX2_firstInTime_61 k46 n46 q61 rfl ?_
          refine a_icmp_gt (tgt := 68) C dX2_firstInTime_62 (by decide) rfl (fun hc => ?_) (fun hc => ?_)
          · replace h := h.1 hc
            refine a_sub (lv' := [(0, .ref (L o)), (1, .int a1), (2, .int a2), (3, .int a3), (4, .int x4)]) [0, 1, 2, 3, 4] rfl ?_
            exact c_X2_firstInTime_68 C hr hlocks hE ho ih u32 x4  h
          · replace h := h.2 hc
            refine a_iload C dX2_firstInTime_65 4 rfl rfl ?_
            exact a_iret C dX2_firstInTime_67 hr hlocks (Nat.le_of_ble_eq_true rfl) (Nat.le_of_ble_eq_true rfl) h
def wp_X2_firstInTime (E : ms_En) (u : ms_St) (o : Nat) (a1 : Int32) (a2 : Int32) (a3 : Int32) (post : Int32 → ms_St → Prop) : Prop := ∃ n3, wp_X2_firstInTime_3 E o a1 a2 a3 post n3 u 0
set_option maxHeartbeats 4000000 in
set_option maxRecDepth 100000 in
theorem c_X2_firstInTime (l : Launch) (G : va_G) (cy : Nat → ClassId) (L : Nat → Nat) (E : ms_En) (hE : ms_WT E) (u : ms_St) (o : Nat) (a1 : Int32) (a2 : Int32) (a3 : Int32) (ho : ms_is E o 2) (post : Int32 → ms_St → Prop) (h : wp_X2_firstInTime E u o a1 a2 a3 post) : ms_MetI l ⟨"CensusWalk$Search", "firstInTime", "(III)I"⟩ (Cond.code ⟨"CensusWalk$Search", "firstInTime", "(III)I"⟩ prog_4_method_17_code 6 (some .int) :: lw_g) ({ frames := 2, cells := 0, slots := 0, locals := 53 } : Room) G cy L E [.ref (L o), .int a1, .int a2, .int a3] u post 0 0 := by
  refine ms_enterI (lv := [(0, .ref (L o)), (1, .int a1), (2, .int a2), (3, .int a3)]) (by decide) (Nat.le_of_ble_eq_true rfl) rfl ?_
  intro p e s m args below meth c A C hr hlocks
  unfold wp_X2_firstInTime at h
  refine a_iconst (v := 0) C dX2_firstInTime_0 (by decide) rfl ?_
  refine a_istore (lv' := [(0, .ref (L o)), (1, .int a1), (2, .int a2), (3, .int a3), (4, .int 0)]) C dX2_firstInTime_1 (by decide) [1, 2, 3, 4, 0] rfl rfl ?_
  obtain ⟨n9, h⟩ := h
  exact c_X2_firstInTime_3 C hr hlocks hE ho  n9 u 0  h

/-! CensusWalk$Search.findOrder(I)V -/
theorem pd_X2_findOrder : (⟨"CensusWalk$Search", "findOrder", "(I)V"⟩ : MethodName).cls = "CensusWalk$Search" ∧ (⟨"CensusWalk$Search", "findOrder", "(I)V"⟩ : MethodName).cls ≠ "java/lang/invoke/MethodHandle" ∧ (⟨"CensusWalk$Search", "findOrder", "(I)V"⟩ : MethodName).cls ≠ "java/lang/invoke/VarHandle" ∧ (parseMethodDescriptor (⟨"CensusWalk$Search", "findOrder", "(I)V"⟩ : MethodName).desc).map (fun d => d.parameters.length) = some 1 := by decide +kernel
def wp_X2_findOrder_25 (E : ms_En) (o : Nat) (a1 : Int32) (post : ms_St → Prop)  : Nat → ms_St → Int32 → Int32 → Int32 → Int32 → Prop
  | 0 => fun _ _ _ _ _ => False
  | n + 1 => fun u x2 x3 x4 x5 => ((ms_I u o 0) ≤ x5 → post u) ∧ (¬ (ms_I u o 0) ≤ x5 → wp_X2_firstInTime E u o x2 x3 x4 (fun r39 u39 => (r39 = (-1) → post u39) ∧ (¬ r39 = (-1) → vp_in r39 8 ∧ (vp_in x5 8 ∧ (∀ w64 : ms_St, w64 = (ms_sI u39 (ms_at E o 1) (Int32.toNatClampNeg x5) (ms_I u39 (ms_at E o 3) (Int32.toNatClampNeg r39))) → (wp_X2_wayTo E w64 o x3 r39 (fun r72 u72 => wp_X2_visitEnd E u72 o r39 r72 x4 (fun r77 u77 => ∀ v88 : Int32, v88 = (x2 ^^^ (1 <<< (r39 &&& 31))) → (wp_X2_findOrder_25 E o a1 post n u77 v88 r39 r77 (x5 + 1))))))))))
set_option maxHeartbeats 4000000 in
set_option maxRecDepth 100000 in
theorem c_X2_findOrder_25 {p : Program} {l : Launch} {e : Env} {s : State} {m : MethodId} {args : Array Value} {below : List Frame} {meth : Method} {c : Code} {G : va_G} {cy : Nat → ClassId} {A : Nat → Prop} {L : Nat → Nat} {E : ms_En} (C : ms_Cx p m c cX2_findOrder 7 s args (Cond.code ⟨"CensusWalk$Search", "findOrder", "(I)V"⟩ prog_4_method_3_code 7 none) "CensusWalk$Search" G cy A) (hr : meth.sig.returnType = none) (hlocks : meth.locks = false) (hE : ms_WT E) {o : Nat} {a1 : Int32} {post : ms_St → Prop}  (ho : ms_is E o 2)  : ∀ (n : Nat) (u : ms_St) (x2 : Int32) (x3 : Int32) (x4 : Int32) (x5 : Int32), wp_X2_findOrder_25 E o a1 post n u x2 x3 x4 x5 → ms_At p l e ({ frames := 4, cells := 0, slots := 0, locals := 102 } : Room) s m args below meth c 7 G cy A L 0 0 (ms_QV below args s G cy L E A post 0 0) E u 25 [(0, .ref (L o)), (2, .int x2), (3, .int x3), (4, .int x4), (5, .int x5)] [] := by
  intro n
  induction n with
  | zero =>
    intro u x2 x3 x4 x5  h
    exact absurd h id
  | succ n ih =>
    intro u x2 x3 x4 x5  h
    unfold wp_X2_findOrder_25 at h
    refine a_iload C dX2_findOrder_25 4 rfl rfl ?_
    refine a_aload_n C dX2_findOrder_27 rfl 0 rfl rfl ?_
    refine g_2_0 C dX2_findOrder_28 ho kw_2_98 rfl ?_
    refine a_icmp_ge (tgt := 98) C dX2_findOrder_31 (by decide) rfl (fun hc => ?_) (fun hc => ?_)
    · replace h := h.1 hc
      exact a_vret C dX2_findOrder_98 hr hlocks (Nat.le_of_ble_eq_true rfl) (Nat.le_of_ble_eq_true rfl) h
    · replace h := h.2 hc
      refine a_aload_n C dX2_findOrder_34 rfl 0 rfl rfl ?_
      refine a_iload_n C dX2_findOrder_35 rfl 1 rfl rfl ?_
      refine a_iload_n C dX2_findOrder_36 rfl 2 rfl rfl ?_
      refine a_iload C dX2_findOrder_37 3 rfl rfl ?_
      refine a_callVI C (c_X2_firstInTime l G cy L E hE u o x2 x3 x4 ho _ h) ho rfl (by decide) kw_5_121 kw_5_123 kp_39 kw_1_11 kw_5_124 rfl rfl pd_X2_firstInTime ⟨(Nat.le_of_ble_eq_true rfl), (Nat.le_of_ble_eq_true rfl)⟩ dX2_findOrder_39 rfl (Nat.le_of_ble_eq_true rfl) ⟨(Nat.le_of_ble_eq_true rfl), (Nat.le_of_ble_eq_true rfl)⟩ rfl (fun r39 u39 h => ?_)
      refine a_istore (lv' := [(0, .ref (L o)), (2, .int x2), (3, .int x3), (4, .int x4), (5, .int x5), (6, .int r39)]) C dX2_findOrder_42 (by decide) [1, 2, 3, 4, 5, 0] rfl rfl ?_
      refine a_iload C dX2_findOrder_44 5 rfl rfl ?_
      refine a_iconst (v := (-1)) C dX2_findOrder_46 (by decide) rfl ?_
      refine a_icmp_ne (tgt := 51) C dX2_findOrder_47 (by decide) rfl (fun hc => ?_) (fun hc => ?_)
      · replace h := h.2 hc
        refine a_aload_n C dX2_findOrder_51 rfl 0 rfl rfl ?_
        refine g_2_1 C hE dX2_findOrder_52 ho kw_2_100 rfl ?_
        have k52 : ms_is E (ms_at E o 1) 13 := ms_wt hE ho rfl (by decide)
        have n52 : ms_N E (ms_at E o 1) = 8 := ms_wl hE ho (by decide) (by decide) rfl
        refine a_iload C dX2_findOrder_55 4 rfl rfl ?_
        refine a_aload_n C dX2_findOrder_57 rfl 0 rfl rfl ?_
        refine g_2_3 C hE dX2_findOrder_58 ho kw_2_104 rfl ?_
        have k58 : ms_is E (ms_at E o 3) 13 := ms_wt hE ho rfl (by decide)
        have n58 : ms_N E (ms_at E o 3) = 8 := ms_wl hE ho (by decide) (by decide) rfl
        refine a_iload C dX2_findOrder_61 5 rfl rfl ?_
        obtain ⟨q63, h⟩ := h
        refine a_iald C dX2_findOrder_63 k58 n58 q63 rfl ?_
        obtain ⟨q64, h⟩ := h
        refine a_iast C dX2_findOrder_64 k52 n52 q64 rfl ?_
        refine a_nmU (fun w64 e64 => ?_)
        replace h := h w64 e64
        refine a_aload_n C dX2_findOrder_65 rfl 0 rfl rfl ?_
        refine a_iload C dX2_findOrder_66 5 rfl rfl ?_
        refine a_aload_n C dX2_findOrder_68 rfl 0 rfl rfl ?_
        refine a_iload_n C dX2_findOrder_69 rfl 2 rfl rfl ?_
        refine a_iload C dX2_findOrder_70 5 rfl rfl ?_
        refine a_callVI C (c_X2_wayTo l G cy L E hE w64 o x3 r39 ho _ h) ho rfl (by decide) kw_5_125 kw_5_127 kp_40 kw_1_11 kw_5_128 rfl rfl pd_X2_wayTo ⟨(Nat.le_of_ble_eq_true rfl), (Nat.le_of_ble_eq_true rfl)⟩ dX2_findOrder_72 rfl (Nat.le_of_ble_eq_true rfl) ⟨(Nat.le_of_ble_eq_true rfl), (Nat.le_of_ble_eq_true rfl)⟩ rfl (fun r72 u72 h => ?_)
        refine a_iload C dX2_findOrder_75 3 rfl rfl ?_
        refine a_callVI C (c_X2_visitEnd l G cy L E hE u72 o r39 r72 x4 ho _ h) ho rfl (by decide) kw_5_84 kw_5_86 kp_34 kw_1_11 kw_5_87 rfl rfl pd_X2_visitEnd ⟨(Nat.le_of_ble_eq_true rfl), (Nat.le_of_ble_eq_true rfl)⟩ dX2_findOrder_77 rfl (Nat.le_of_ble_eq_true rfl) ⟨(Nat.le_of_ble_eq_true rfl), (Nat.le_of_ble_eq_true rfl)⟩ rfl (fun r77 u77 h => ?_)
        refine a_istore (lv' := [(0, .ref (L o)), (2, .int x2), (3, .int x3), (4, .int r77), (5, .int x5), (6, .int r39)]) C dX2_findOrder_80 (by decide) [1, 2, 3, 0, 4, 5] rfl rfl ?_
        refine a_iload_n C dX2_findOrder_82 rfl 1 rfl rfl ?_
        refine a_iconst (v := 1) C dX2_findOrder_83 (by decide) rfl ?_
        refine a_iload C dX2_findOrder_84 5 rfl rfl ?_
        refine a_ishl C dX2_findOrder_86 rfl ?_
        refine a_ixor C dX2_findOrder_87 rfl ?_
        refine a_nmI (fun v88 e88 => ?_)
        replace h := h v88 e88
        refine a_istore_n (lv' := [(0, .ref (L o)), (2, .int v88), (3, .int x3), (4, .int r77), (5, .int x5), (6, .int r39)]) C dX2_findOrder_88 rfl (by decide) [1, 0, 2, 3, 4, 5] rfl rfl ?_
        refine a_iload C dX2_findOrder_89 5 rfl rfl ?_
        refine a_istore_n (lv' := [(0, .ref (L o)), (2, .int v88), (3, .int r39), (4, .int r77), (5, .int x5), (6, .int r39)]) C dX2_findOrder_91 rfl (by decide) [1, 2, 0, 3, 4, 5] rfl rfl ?_
        refine a_iinc (lv' := [(0, .ref (L o)), (2, .int v88), (3, .int r39), (4, .int r77), (5, .int (x5 + 1)), (6, .int r39)]) (v := (x5 + 1)) C dX2_findOrder_92 4 rfl (congrArg (fun z => x5 + z) (by decide)) (by decide) [1, 2, 3, 4, 0, 5] rfl rfl ?_
        refine a_goto (tgt := 25) C dX2_findOrder_95 (by decide) ?_
        refine a_sub (lv' := [(0, .ref (L o)), (2, .int v88), (3, .int r39), (4, .int r77), (5, .int (x5 + 1))]) [0, 1, 2, 3, 4] rfl ?_
        exact ih u77 v88 r39 r77 (x5 + 1)  h
      · replace h := h.1 hc
        exact a_vret C dX2_findOrder_50 hr hlocks (Nat.le_of_ble_eq_true rfl) (Nat.le_of_ble_eq_true rfl) h
def wp_X2_findOrder (E : ms_En) (u : ms_St) (o : Nat) (a1 : Int32) (post : ms_St → Prop) : Prop := wp_X2_findLate E u o a1 (fun u2 => ∀ v13 : Int32, v13 = ((1 <<< ((ms_I u2 o 0) &&& 31)) - 1) → (∀ v20 : Int32, v20 = (ms_I u2 o 9) → (∃ n25, wp_X2_findOrder_25 E o a1 post n25 u2 v13 (-1) v20 0)))
set_option maxHeartbeats 4000000 in
set_option maxRecDepth 100000 in
theorem c_X2_findOrder (l : Launch) (G : va_G) (cy : Nat → ClassId) (L : Nat → Nat) (E : ms_En) (hE : ms_WT E) (u : ms_St) (o : Nat) (a1 : Int32) (ho : ms_is E o 2) (post : ms_St → Prop) (h : wp_X2_findOrder E u o a1 post) : ms_MetV l ⟨"CensusWalk$Search", "findOrder", "(I)V"⟩ (Cond.code ⟨"CensusWalk$Search", "findOrder", "(I)V"⟩ prog_4_method_3_code 7 none :: lw_g) ({ frames := 4, cells := 0, slots := 0, locals := 102 } : Room) G cy L E [.ref (L o), .int a1] u post 0 0 := by
  refine ms_enterV (lv := [(0, .ref (L o)), (1, .int a1)]) (by decide) (Nat.le_of_ble_eq_true rfl) rfl ?_
  intro p e s m args below meth c A C hr hlocks
  unfold wp_X2_findOrder at h
  refine a_aload_n C dX2_findOrder_0 rfl 0 rfl rfl ?_
  refine a_iload_n C dX2_findOrder_1 rfl 1 rfl rfl ?_
  refine a_callVV C (c_X2_findLate l G cy L E hE u o a1 ho _ h) ho rfl (by decide) kw_5_109 kw_5_111 kp_36 kw_1_11 kw_5_112 rfl rfl pd_X2_findLate ⟨(Nat.le_of_ble_eq_true rfl), (Nat.le_of_ble_eq_true rfl)⟩ dX2_findOrder_2 rfl (Nat.le_of_ble_eq_true rfl) ⟨(Nat.le_of_ble_eq_true rfl), (Nat.le_of_ble_eq_true rfl)⟩ rfl (fun u2 h => ?_)
  refine a_iconst (v := 1) C dX2_findOrder_5 (by decide) rfl ?_
  refine a_aload_n C dX2_findOrder_6 rfl 0 rfl rfl ?_
  refine g_2_0 C dX2_findOrder_7 ho kw_2_98 rfl ?_
  refine a_ishl C dX2_findOrder_10 rfl ?_
  refine a_iconst (v := 1) C dX2_findOrder_11 (by decide) rfl ?_
  refine a_isub C dX2_findOrder_12 rfl ?_
  refine a_nmI (fun v13 e13 => ?_)
  replace h := h v13 e13
  refine a_istore_n (lv' := [(0, .ref (L o)), (1, .int a1), (2, .int v13)]) C dX2_findOrder_13 rfl (by decide) [1, 2, 0] rfl rfl ?_
  refine a_iconst (v := (-1)) C dX2_findOrder_14 (by decide) rfl ?_
  refine a_istore_n (lv' := [(0, .ref (L o)), (1, .int a1), (2, .int v13), (3, .int (-1))]) C dX2_findOrder_15 rfl (by decide) [1, 2, 3, 0] rfl rfl ?_
  refine a_aload_n C dX2_findOrder_16 rfl 0 rfl rfl ?_
  refine g_2_9 C dX2_findOrder_17 ho kw_2_110 rfl ?_
  refine a_nmI (fun v20 e20 => ?_)
  replace h := h v20 e20
  refine a_istore (lv' := [(0, .ref (L o)), (1, .int a1), (2, .int v13), (3, .int (-1)), (4, .int v20)]) C dX2_findOrder_20 (by decide) [1, 2, 3, 4, 0] rfl rfl ?_
  refine a_iconst (v := 0) C dX2_findOrder_22 (by decide) rfl ?_
  refine a_istore (lv' := [(0, .ref (L o)), (1, .int a1), (2, .int v13), (3, .int (-1)), (4, .int v20), (5, .int 0)]) C dX2_findOrder_23 (by decide) [1, 2, 3, 4, 5, 0] rfl rfl ?_
  refine a_sub (lv' := [(0, .ref (L o)), (2, .int v13), (3, .int (-1)), (4, .int v20), (5, .int 0)]) [0, 2, 3, 4, 5] rfl ?_
  obtain ⟨n9, h⟩ := h
  exact c_X2_findOrder_25 C hr hlocks hE ho  n9 u2 v13 (-1) v20 0  h

/-! CensusWalk$Search.choose(LCensusWalk$Town;LCensusWalk$Routes;I)V -/
theorem pd_X2_choose : (⟨"CensusWalk$Search", "choose", "(LCensusWalk$Town;LCensusWalk$Routes;I)V"⟩ : MethodName).cls = "CensusWalk$Search" ∧ (⟨"CensusWalk$Search", "choose", "(LCensusWalk$Town;LCensusWalk$Routes;I)V"⟩ : MethodName).cls ≠ "java/lang/invoke/MethodHandle" ∧ (⟨"CensusWalk$Search", "choose", "(LCensusWalk$Town;LCensusWalk$Routes;I)V"⟩ : MethodName).cls ≠ "java/lang/invoke/VarHandle" ∧ (parseMethodDescriptor (⟨"CensusWalk$Search", "choose", "(LCensusWalk$Town;LCensusWalk$Routes;I)V"⟩ : MethodName).desc).map (fun d => d.parameters.length) = some 3 := by decide +kernel
def wp_X2_choose_137 (E : ms_En) (o : Nat) (a1 : Nat) (a2 : Nat) (a3 : Int32) (post : ms_St → Prop) (k125 : ms_St → Int32 → Prop) : Nat → ms_St → Int32 → Int32 → Prop
  | 0 => fun _ _ _ => False
  | n + 1 => fun u x4 x5 => ((ms_I u o 0) ≤ x5 → k125 u (x4 + 1)) ∧ (¬ (ms_I u o 0) ≤ x5 → vp_in x4 8 ∧ (vp_in x5 8 ∧ (wp_X1_betweenHouses E u a2 a1 (ms_I u (ms_at E o 3) (Int32.toNatClampNeg x4)) (ms_I u (ms_at E o 3) (Int32.toNatClampNeg x5)) (fun r174 u174 => vp_in ((x4 * 8) + x5) 64 ∧ (wp_X2_choose_137 E o a1 a2 a3 post k125 n (ms_sI u174 (ms_at E o 7) (Int32.toNatClampNeg ((x4 * 8) + x5)) r174) x4 (x5 + 1))))))
set_option maxHeartbeats 4000000 in
set_option maxRecDepth 100000 in
theorem c_X2_choose_137 {p : Program} {l : Launch} {e : Env} {s : State} {m : MethodId} {args : Array Value} {below : List Frame} {meth : Method} {c : Code} {G : va_G} {cy : Nat → ClassId} {A : Nat → Prop} {L : Nat → Nat} {E : ms_En} (C : ms_Cx p m c cX2_choose 6 s args (Cond.code ⟨"CensusWalk$Search", "choose", "(LCensusWalk$Town;LCensusWalk$Routes;I)V"⟩ prog_4_method_6_code 6 none) "CensusWalk$Search" G cy A) (hr : meth.sig.returnType = none) (hlocks : meth.locks = false) (hE : ms_WT E) {o : Nat} {a1 : Nat} {a2 : Nat} {a3 : Int32} {post : ms_St → Prop} {k125 : ms_St → Int32 → Prop} (ho : ms_is E o 2) (ha1 : ms_is E a1 7) (ha2 : ms_is E a2 1) (hk125 : ∀ (u : ms_St) (x4 : Int32), k125 u x4 → ms_At p l e ({ frames := 4, cells := 0, slots := 0, locals := 97 } : Room) s m args below meth c 6 G cy A L 0 0 (ms_QV below args s G cy L E A post 0 0) E u 125 [(0, .ref (L o)), (1, .ref (L a1)), (2, .ref (L a2)), (4, .int x4)] []) : ∀ (n : Nat) (u : ms_St) (x4 : Int32) (x5 : Int32), wp_X2_choose_137 E o a1 a2 a3 post k125 n u x4 x5 → ms_At p l e ({ frames := 4, cells := 0, slots := 0, locals := 97 } : Room) s m args below meth c 6 G cy A L 0 0 (ms_QV below args s G cy L E A post 0 0) E u 137 [(0, .ref (L o)), (1, .ref (L a1)), (2, .ref (L a2)), (4, .int x4), (5, .int x5)] [] := by
  intro n
  induction n with
  | zero =>
    intro u x4 x5  h
    exact absurd h id
  | succ n ih =>
    intro u x4 x5  h
    unfold wp_X2_choose_137 at h
    refine a_iload C dX2_choose_137 4 rfl rfl ?_
    refine a_aload_n C dX2_choose_139 rfl 0 rfl rfl ?_
    refine g_2_0 C dX2_choose_140 ho kw_2_98 rfl ?_
    refine a_icmp_ge (tgt := 184) C dX2_choose_143 (by decide) rfl (fun hc => ?_) (fun hc => ?_)
    · replace h := h.1 hc
      refine a_iinc (lv' := [(0, .ref (L o)), (1, .ref (L a1)), (2, .ref (L a2)), (4, .int (x4 + 1)), (5, .int x5)]) (v := (x4 + 1)) C dX2_choose_184 3 rfl (congrArg (fun z => x4 + z) (by decide)) (by decide) [1, 2, 3, 0, 4] rfl rfl ?_
      refine a_goto (tgt := 125) C dX2_choose_187 (by decide) ?_
      refine a_sub (lv' := [(0, .ref (L o)), (1, .ref (L a1)), (2, .ref (L a2)), (4, .int (x4 + 1))]) [0, 1, 2, 3] rfl ?_
      exact hk125 u (x4 + 1)  h
    · replace h := h.2 hc
      refine a_aload_n C dX2_choose_146 rfl 0 rfl rfl ?_
      refine g_2_7 C hE dX2_choose_147 ho kw_2_108 rfl ?_
      have k147 : ms_is E (ms_at E o 7) 13 := ms_wt hE ho rfl (by decide)
      have n147 : ms_N E (ms_at E o 7) = 64 := ms_wl hE ho (by decide) (by decide) rfl
      refine a_iload C dX2_choose_150 3 rfl rfl ?_
      refine a_bipush (v := 8) C dX2_choose_152 (by decide) rfl ?_
      refine a_imul C dX2_choose_154 rfl ?_
      refine a_iload C dX2_choose_155 4 rfl rfl ?_
      refine a_iadd C dX2_choose_157 rfl ?_
      refine a_aload_n C dX2_choose_158 rfl 2 rfl rfl ?_
      refine a_aload_n C dX2_choose_159 rfl 1 rfl rfl ?_
      refine a_aload_n C dX2_choose_160 rfl 0 rfl rfl ?_
      refine g_2_3 C hE dX2_choose_161 ho kw_2_104 rfl ?_
      have k161 : ms_is E (ms_at E o 3) 13 := ms_wt hE ho rfl (by decide)
      have n161 : ms_N E (ms_at E o 3) = 8 := ms_wl hE ho (by decide) (by decide) rfl
      refine a_iload C dX2_choose_164 3 rfl rfl ?_
      obtain ⟨q166, h⟩ := h
      refine a_iald C dX2_choose_166 k161 n161 q166 rfl ?_
      refine a_aload_n C dX2_choose_167 rfl 0 rfl rfl ?_
      refine g_2_3 C hE dX2_choose_168 ho kw_2_104 rfl ?_
      refine a_iload C dX2_choose_171 4 rfl rfl ?_
      obtain ⟨q173, h⟩ := h
      refine a_iald C dX2_choose_173 k161 n161 q173 rfl ?_
      refine a_callVI C (c_X1_betweenHouses l G cy L E hE u a2 a1 (ms_I u (ms_at E o 3) (Int32.toNatClampNeg x4)) (ms_I u (ms_at E o 3) (Int32.toNatClampNeg x5)) ha2 ha1 _ h) ha2 rfl (by decide) kw_5_69 kw_3_50 kw_3_51 kw_1_9 kw_3_52 rfl rfl pd_X1_betweenHouses ⟨(Nat.le_of_ble_eq_true rfl), (Nat.le_of_ble_eq_true rfl)⟩ dX2_choose_174 rfl (Nat.le_of_ble_eq_true rfl) ⟨(Nat.le_of_ble_eq_true rfl), (Nat.le_of_ble_eq_true rfl)⟩ rfl (fun r174 u174 h => ?_)
      obtain ⟨q177, h⟩ := h
      refine a_iast C dX2_choose_177 k147 n147 q177 rfl ?_
      refine a_iinc (lv' := [(0, .ref (L o)), (1, .ref (L a1)), (2, .ref (L a2)), (4, .int x4), (5, .int (x5 + 1))]) (v := (x5 + 1)) C dX2_choose_178 4 rfl (congrArg (fun z => x5 + z) (by decide)) (by decide) [1, 2, 3, 4, 0] rfl rfl ?_
      refine a_goto (tgt := 137) C dX2_choose_181 (by decide) ?_
      exact ih (ms_sI u174 (ms_at E o 7) (Int32.toNatClampNeg ((x4 * 8) + x5)) r174) x4 (x5 + 1)  h
def wp_X2_choose_125 (E : ms_En) (o : Nat) (a1 : Nat) (a2 : Nat) (a3 : Int32) (post : ms_St → Prop)  : Nat → ms_St → Int32 → Prop
  | 0 => fun _ _ => False
  | n + 1 => fun u x4 => ((ms_I u o 0) ≤ x4 → post u) ∧ (¬ (ms_I u o 0) ≤ x4 → ∃ n137, wp_X2_choose_137 E o a1 a2 a3 post (wp_X2_choose_125 E o a1 a2 a3 post n) n137 u x4 0)
set_option maxHeartbeats 4000000 in
set_option maxRecDepth 100000 in
theorem c_X2_choose_125 {p : Program} {l : Launch} {e : Env} {s : State} {m : MethodId} {args : Array Value} {below : List Frame} {meth : Method} {c : Code} {G : va_G} {cy : Nat → ClassId} {A : Nat → Prop} {L : Nat → Nat} {E : ms_En} (C : ms_Cx p m c cX2_choose 6 s args (Cond.code ⟨"CensusWalk$Search", "choose", "(LCensusWalk$Town;LCensusWalk$Routes;I)V"⟩ prog_4_method_6_code 6 none) "CensusWalk$Search" G cy A) (hr : meth.sig.returnType = none) (hlocks : meth.locks = false) (hE : ms_WT E) {o : Nat} {a1 : Nat} {a2 : Nat} {a3 : Int32} {post : ms_St → Prop}  (ho : ms_is E o 2) (ha1 : ms_is E a1 7) (ha2 : ms_is E a2 1)  : ∀ (n : Nat) (u : ms_St) (x4 : Int32), wp_X2_choose_125 E o a1 a2 a3 post n u x4 → ms_At p l e ({ frames := 4, cells := 0, slots := 0, locals := 97 } : Room) s m args below meth c 6 G cy A L 0 0 (ms_QV below args s G cy L E A post 0 0) E u 125 [(0, .ref (L o)), (1, .ref (L a1)), (2, .ref (L a2)), (4, .int x4)] [] := by
  intro n
  induction n with
  | zero =>
    intro u x4  h
    exact absurd h id
  | succ n ih =>
    intro u x4  h
    unfold wp_X2_choose_125 at h
    refine a_iload C dX2_choose_125 3 rfl rfl ?_
    refine a_aload_n C dX2_choose_127 rfl 0 rfl rfl ?_
    refine g_2_0 C dX2_choose_128 ho kw_2_98 rfl ?_
    refine a_icmp_ge (tgt := 190) C dX2_choose_131 (by decide) rfl (fun hc => ?_) (fun hc => ?_)
    · replace h := h.1 hc
      exact a_vret C dX2_choose_190 hr hlocks (Nat.le_of_ble_eq_true rfl) (Nat.le_of_ble_eq_true rfl) h
    · replace h := h.2 hc
      refine a_iconst (v := 0) C dX2_choose_134 (by decide) rfl ?_
      refine a_istore (lv' := [(0, .ref (L o)), (1, .ref (L a1)), (2, .ref (L a2)), (4, .int x4), (5, .int 0)]) C dX2_choose_135 (by decide) [1, 2, 3, 4, 0] rfl rfl ?_
      obtain ⟨n9, h⟩ := h
      exact c_X2_choose_137 C hr hlocks hE ho ha1 ha2 ih n9 u x4 0  h
def wp_X2_choose_116 (E : ms_En) (o : Nat) (a1 : Nat) (a2 : Nat) (a3 : Int32) (post : ms_St → Prop) (k8 : ms_St → Int32 → Prop) (u : ms_St) (x4 : Int32) : Prop := k8 u (x4 + 1)
set_option maxHeartbeats 4000000 in
set_option maxRecDepth 100000 in
theorem c_X2_choose_116 {p : Program} {l : Launch} {e : Env} {s : State} {m : MethodId} {args : Array Value} {below : List Frame} {meth : Method} {c : Code} {G : va_G} {cy : Nat → ClassId} {A : Nat → Prop} {L : Nat → Nat} {E : ms_En} (C : ms_Cx p m c cX2_choose 6 s args (Cond.code ⟨"CensusWalk$Search", "choose", "(LCensusWalk$Town;LCensusWalk$Routes;I)V"⟩ prog_4_method_6_code 6 none) "CensusWalk$Search" G cy A) (hr : meth.sig.returnType = none) (hlocks : meth.locks = false) (hE : ms_WT E) {o : Nat} {a1 : Nat} {a2 : Nat} {a3 : Int32} {post : ms_St → Prop} {k8 : ms_St → Int32 → Prop} (ho : ms_is E o 2) (ha1 : ms_is E a1 7) (ha2 : ms_is E a2 1) (hk8 : ∀ (u : ms_St) (x4 : Int32), k8 u x4 → ms_At p l e ({ frames := 4, cells := 0, slots := 0, locals := 97 } : Room) s m args below meth c 6 G cy A L 0 0 (ms_QV below args s G cy L E A post 0 0) E u 8 [(0, .ref (L o)), (1, .ref (L a1)), (2, .ref (L a2)), (3, .int a3), (4, .int x4)] []) (u : ms_St) (x4 : Int32)  (h : wp_X2_choose_116 E o a1 a2 a3 post k8 u x4) : ms_At p l e ({ frames := 4, cells := 0, slots := 0, locals := 97 } : Room) s m args below meth c 6 G cy A L 0 0 (ms_QV below args s G cy L E A post 0 0) E u 116 [(0, .ref (L o)), (1, .ref (L a1)), (2, .ref (L a2)), (3, .int a3), (4, .int x4)] [] := by
  unfold wp_X2_choose_116 at h
  refine a_iinc (lv' := [(0, .ref (L o)), (1, .ref (L a1)), (2, .ref (L a2)), (3, .int a3), (4, .int (x4 + 1))]) (v := (x4 + 1)) C dX2_choose_116 4 rfl (congrArg (fun z => x4 + z) (by decide)) (by decide) [1, 2, 3, 4, 0] rfl rfl ?_
  refine a_goto (tgt := 8) C dX2_choose_119 (by decide) ?_
  exact hk8 u (x4 + 1)  h
def wp_X2_choose_8 (E : ms_En) (o : Nat) (a1 : Nat) (a2 : Nat) (a3 : Int32) (post : ms_St → Prop)  : Nat → ms_St → Int32 → Prop
  | 0 => fun _ _ => False
  | n + 1 => fun u x4 => ((ms_I u (ms_at E a1 4) 0) ≤ x4 → ∃ n125, wp_X2_choose_125 E o a1 a2 a3 post n125 u 0) ∧ (¬ (ms_I u (ms_at E a1 4) 0) ≤ x4 → wp_X10_contains E u a3 x4 (fun r23 u23 => (r23 = 0 → wp_X2_choose_116 E o a1 a2 a3 post (wp_X2_choose_8 E o a1 a2 a3 post n) u23 x4) ∧ (¬ r23 = 0 → (8 ≤ (ms_I u23 o 0) → wp_X2_choose_116 E o a1 a2 a3 post (wp_X2_choose_8 E o a1 a2 a3 post n) u23 x4) ∧ (¬ 8 ≤ (ms_I u23 o 0) → vp_in (ms_I u23 o 0) 8 ∧ (vp_in x4 16 ∧ (vp_in (ms_I (ms_sI u23 (ms_at E o 3) (Int32.toNatClampNeg (ms_I u23 o 0)) x4) o 0) 8 ∧ (∀ w67 : ms_St, w67 = (ms_sI (ms_sI u23 (ms_at E o 3) (Int32.toNatClampNeg (ms_I u23 o 0)) x4) (ms_at E o 4) (Int32.toNatClampNeg (ms_I (ms_sI u23 (ms_at E o 3) (Int32.toNatClampNeg (ms_I u23 o 0)) x4) o 0)) (ms_I (ms_sI u23 (ms_at E o 3) (Int32.toNatClampNeg (ms_I u23 o 0)) x4) (ms_at E (ms_at E a1 4) 5) (Int32.toNatClampNeg x4))) → (vp_in x4 16 ∧ (vp_in (ms_I w67 o 0) 8 ∧ (∀ w86 : ms_St, w86 = (ms_sI w67 (ms_at E o 5) (Int32.toNatClampNeg (ms_I w67 o 0)) (ms_I w67 (ms_at E (ms_at E a1 4) 6) (Int32.toNatClampNeg x4))) → (wp_X0_visitTime E w86 (ms_at E a1 4) x4 1 (fun r102 u102 => vp_in (ms_I w86 o 0) 8 ∧ (∀ w113 : ms_St, w113 = (ms_sI (ms_sI u102 (ms_at E o 6) (Int32.toNatClampNeg (ms_I w86 o 0)) r102) o 0 ((ms_I (ms_sI u102 (ms_at E o 6) (Int32.toNatClampNeg (ms_I w86 o 0)) r102) o 0) + 1)) → (wp_X2_choose_116 E o a1 a2 a3 post (wp_X2_choose_8 E o a1 a2 a3 post n) w113 x4))))))))))))))
set_option maxHeartbeats 4000000 in
set_option maxRecDepth 100000 in
theorem c_X2_choose_8 {p : Program} {l : Launch} {e : Env} {s : State} {m : MethodId} {args : Array Value} {below : List Frame} {meth : Method} {c : Code} {G : va_G} {cy : Nat → ClassId} {A : Nat → Prop} {L : Nat → Nat} {E : ms_En} (C : ms_Cx p m c cX2_choose 6 s args (Cond.code ⟨"CensusWalk$Search", "choose", "(LCensusWalk$Town;LCensusWalk$Routes;I)V"⟩ prog_4_method_6_code 6 none) "CensusWalk$Search" G cy A) (hr : meth.sig.returnType = none) (hlocks : meth.locks = false) (hE : ms_WT E) {o : Nat} {a1 : Nat} {a2 : Nat} {a3 : Int32} {post : ms_St → Prop}  (ho : ms_is E o 2) (ha1 : ms_is E a1 7) (ha2 : ms_is E a2 1)  : ∀ (n : Nat) (u : ms_St) (x4 : Int32), wp_X2_choose_8 E o a1 a2 a3 post n u x4 → ms_At p l e ({ frames := 4, cells := 0, slots := 0, locals := 97 } : Room) s m args below meth c 6 G cy A L 0 0 (ms_QV below args s G cy L E A post 0 0) E u 8 [(0, .ref (L o)), (1, .ref (L a1)), (2, .ref (L a2)), (3, .int a3), (4, .int x4)] [] := by
  intro n
  induction n with
  | zero =>
    intro u x4  h
    exact absurd h id
  | succ n ih =>
    intro u x4  h
    unfold wp_X2_choose_8 at h
    refine a_iload C dX2_choose_8 4 rfl rfl ?_
    refine a_aload_n C dX2_choose_10 rfl 1 rfl rfl ?_
    refine g_7_4 C hE dX2_choose_11 ha1 kw_1_184 rfl ?_
    have k11 : ms_is E (ms_at E a1 4) 0 := ms_wt hE ha1 rfl (by decide)
    refine g_0_0 C dX2_choose_14 k11 kw_1_86 rfl ?_
    refine a_icmp_ge (tgt := 122) C dX2_choose_17 (by decide) rfl (fun hc => ?_) (fun hc => ?_)
    · replace h := h.1 hc
      refine a_iconst (v := 0) C dX2_choose_122 (by decide) rfl ?_
      refine a_istore (lv' := [(0, .ref (L o)), (1, .ref (L a1)), (2, .ref (L a2)), (3, .int a3), (4, .int 0)]) C dX2_choose_123 (by decide) [1, 2, 3, 4, 0] rfl rfl ?_
      refine a_sub (lv' := [(0, .ref (L o)), (1, .ref (L a1)), (2, .ref (L a2)), (4, .int 0)]) [0, 1, 2, 4] rfl ?_
      obtain ⟨n9, h⟩ := h
      exact c_X2_choose_125 C hr hlocks hE ho ha1 ha2  n9 u 0  h
    · replace h := h.2 hc
      refine a_iload_n C dX2_choose_20 rfl 3 rfl rfl ?_
      refine a_iload C dX2_choose_21 4 rfl rfl ?_
      refine a_callNI C (c_X10_contains l G cy L E hE u a3 x4  _ h) (List.mem_of_getElem? (i := 12) rfl) kw_3_73 kw_1_1 kw_3_74 rfl rfl pd_X10_contains ⟨(Nat.le_of_ble_eq_true rfl), (Nat.le_of_ble_eq_true rfl)⟩ dX2_choose_23 rfl (Nat.le_of_ble_eq_true rfl) ⟨(Nat.le_of_ble_eq_true rfl), (Nat.le_of_ble_eq_true rfl)⟩ rfl (fun r23 u23 h => ?_)
      refine a_if_eq (tgt := 116) C dX2_choose_26 (by decide) rfl (fun hc => ?_) (fun hc => ?_)
      · replace h := h.1 hc
        exact c_X2_choose_116 C hr hlocks hE ho ha1 ha2 ih u23 x4  h
      · replace h := h.2 hc
        refine a_aload_n C dX2_choose_29 rfl 0 rfl rfl ?_
        refine g_2_0 C dX2_choose_30 ho kw_2_98 rfl ?_
        refine a_bipush (v := 8) C dX2_choose_33 (by decide) rfl ?_
        refine a_icmp_ge (tgt := 116) C dX2_choose_35 (by decide) rfl (fun hc => ?_) (fun hc => ?_)
        · replace h := h.1 hc
          exact c_X2_choose_116 C hr hlocks hE ho ha1 ha2 ih u23 x4  h
        · replace h := h.2 hc
          refine a_aload_n C dX2_choose_38 rfl 0 rfl rfl ?_
          refine g_2_3 C hE dX2_choose_39 ho kw_2_104 rfl ?_
          have k39 : ms_is E (ms_at E o 3) 13 := ms_wt hE ho rfl (by decide)
          have n39 : ms_N E (ms_at E o 3) = 8 := ms_wl hE ho (by decide) (by decide) rfl
          refine a_aload_n C dX2_choose_42 rfl 0 rfl rfl ?_
          refine g_2_0 C dX2_choose_43 ho kw_2_98 rfl ?_
          refine a_iload C dX2_choose_46 4 rfl rfl ?_
          obtain ⟨q48, h⟩ := h
          refine a_iast C dX2_choose_48 k39 n39 q48 rfl ?_
          refine a_aload_n C dX2_choose_49 rfl 0 rfl rfl ?_
          refine g_2_4 C hE dX2_choose_50 ho kw_2_105 rfl ?_
          have k50 : ms_is E (ms_at E o 4) 13 := ms_wt hE ho rfl (by decide)
          have n50 : ms_N E (ms_at E o 4) = 8 := ms_wl hE ho (by decide) (by decide) rfl
          refine a_aload_n C dX2_choose_53 rfl 0 rfl rfl ?_
          refine g_2_0 C dX2_choose_54 ho kw_2_98 rfl ?_
          refine a_aload_n C dX2_choose_57 rfl 1 rfl rfl ?_
          refine g_7_4 C hE dX2_choose_58 ha1 kw_1_184 rfl ?_
          refine g_0_5 C hE dX2_choose_61 k11 kw_1_101 rfl ?_
          have k61 : ms_is E (ms_at E (ms_at E a1 4) 5) 13 := ms_wt hE k11 rfl (by decide)
          have n61 : ms_N E (ms_at E (ms_at E a1 4) 5) = 16 := ms_wl hE k11 (by decide) (by decide) rfl
          refine a_iload C dX2_choose_64 4 rfl rfl ?_
          obtain ⟨q66, h⟩ := h
          refine a_iald C dX2_choose_66 k61 n61 q66 rfl ?_
          obtain ⟨q67, h⟩ := h
          refine a_iast C dX2_choose_67 k50 n50 q67 rfl ?_
          refine a_nmU (fun w67 e67 => ?_)
          replace h := h w67 e67
          refine a_aload_n C dX2_choose_68 rfl 0 rfl rfl ?_
          refine g_2_5 C hE dX2_choose_69 ho kw_2_106 rfl ?_
          have k69 : ms_is E (ms_at E o 5) 13 := ms_wt hE ho rfl (by decide)
          have n69 : ms_N E (ms_at E o 5) = 8 := ms_wl hE ho (by decide) (by decide) rfl
          refine a_aload_n C dX2_choose_72 rfl 0 rfl rfl ?_
          refine g_2_0 C dX2_choose_73 ho kw_2_98 rfl ?_
          refine a_aload_n C dX2_choose_76 rfl 1 rfl rfl ?_
          refine g_7_4 C hE dX2_choose_77 ha1 kw_1_184 rfl ?_
          refine g_0_6 C hE dX2_choose_80 k11 kw_1_105 rfl ?_
          have k80 : ms_is E (ms_at E (ms_at E a1 4) 6) 13 := ms_wt hE k11 rfl (by decide)
          have n80 : ms_N E (ms_at E (ms_at E a1 4) 6) = 16 := ms_wl hE k11 (by decide) (by decide) rfl
          refine a_iload C dX2_choose_83 4 rfl rfl ?_
          obtain ⟨q85, h⟩ := h
          refine a_iald C dX2_choose_85 k80 n80 q85 rfl ?_
          obtain ⟨q86, h⟩ := h
          refine a_iast C dX2_choose_86 k69 n69 q86 rfl ?_
          refine a_nmU (fun w86 e86 => ?_)
          replace h := h w86 e86
          refine a_aload_n C dX2_choose_87 rfl 0 rfl rfl ?_
          refine g_2_6 C hE dX2_choose_88 ho kw_2_107 rfl ?_
          have k88 : ms_is E (ms_at E o 6) 13 := ms_wt hE ho rfl (by decide)
          have n88 : ms_N E (ms_at E o 6) = 8 := ms_wl hE ho (by decide) (by decide) rfl
          refine a_aload_n C dX2_choose_91 rfl 0 rfl rfl ?_
          refine g_2_0 C dX2_choose_92 ho kw_2_98 rfl ?_
          refine a_aload_n C dX2_choose_95 rfl 1 rfl rfl ?_
          refine g_7_4 C hE dX2_choose_96 ha1 kw_1_184 rfl ?_
          refine a_iload C dX2_choose_99 4 rfl rfl ?_
          refine a_iconst (v := 1) C dX2_choose_101 (by decide) rfl ?_
          refine a_callVI C (c_X0_visitTime l G cy L E hE w86 (ms_at E a1 4) x4 1 k11 _ h) k11 rfl (by decide) kw_5_68 kw_3_81 kw_3_82 kw_1_4 kw_3_83 rfl rfl pd_X0_visitTime ⟨(Nat.le_of_ble_eq_true rfl), (Nat.le_of_ble_eq_true rfl)⟩ dX2_choose_102 rfl (Nat.le_of_ble_eq_true rfl) ⟨(Nat.le_of_ble_eq_true rfl), (Nat.le_of_ble_eq_true rfl)⟩ rfl (fun r102 u102 h => ?_)
          obtain ⟨q105, h⟩ := h
          refine a_iast C dX2_choose_105 k88 n88 q105 rfl ?_
          refine a_aload_n C dX2_choose_106 rfl 0 rfl rfl ?_
          refine a_dup C dX2_choose_107 rfl rfl ?_
          refine g_2_0 C dX2_choose_108 ho kw_2_98 rfl ?_
          refine a_iconst (v := 1) C dX2_choose_111 (by decide) rfl ?_
          refine a_iadd C dX2_choose_112 rfl ?_
          refine s_2_0 C dX2_choose_113 ho kw_2_98 rfl ?_
          refine a_nmU (fun w113 e113 => ?_)
          replace h := h w113 e113
          exact c_X2_choose_116 C hr hlocks hE ho ha1 ha2 ih w113 x4  h
def wp_X2_choose (E : ms_En) (u : ms_St) (o : Nat) (a1 : Nat) (a2 : Nat) (a3 : Int32) (post : ms_St → Prop) : Prop := ∃ n8, wp_X2_choose_8 E o a1 a2 a3 post n8 (ms_sI u o 0 0) 0
set_option maxHeartbeats 4000000 in
set_option maxRecDepth 100000 in
theorem c_X2_choose (l : Launch) (G : va_G) (cy : Nat → ClassId) (L : Nat → Nat) (E : ms_En) (hE : ms_WT E) (u : ms_St) (o : Nat) (a1 : Nat) (a2 : Nat) (a3 : Int32) (ho : ms_is E o 2) (ha1 : ms_is E a1 7) (ha2 : ms_is E a2 1) (post : ms_St → Prop) (h : wp_X2_choose E u o a1 a2 a3 post) : ms_MetV l ⟨"CensusWalk$Search", "choose", "(LCensusWalk$Town;LCensusWalk$Routes;I)V"⟩ (Cond.code ⟨"CensusWalk$Search", "choose", "(LCensusWalk$Town;LCensusWalk$Routes;I)V"⟩ prog_4_method_6_code 6 none :: lw_g) ({ frames := 4, cells := 0, slots := 0, locals := 97 } : Room) G cy L E [.ref (L o), .ref (L a1), .ref (L a2), .int a3] u post 0 0 := by
  refine ms_enterV (lv := [(0, .ref (L o)), (1, .ref (L a1)), (2, .ref (L a2)), (3, .int a3)]) (by decide) (Nat.le_of_ble_eq_true rfl) rfl ?_
  intro p e s m args below meth c A C hr hlocks
  unfold wp_X2_choose at h
  refine a_aload_n C dX2_choose_0 rfl 0 rfl rfl ?_
  refine a_iconst (v := 0) C dX2_choose_1 (by decide) rfl ?_
  refine s_2_0 C dX2_choose_2 ho kw_2_98 rfl ?_
  refine a_iconst (v := 0) C dX2_choose_5 (by decide) rfl ?_
  refine a_istore (lv' := [(0, .ref (L o)), (1, .ref (L a1)), (2, .ref (L a2)), (3, .int a3), (4, .int 0)]) C dX2_choose_6 (by decide) [1, 2, 3, 4, 0] rfl rfl ?_
  obtain ⟨n9, h⟩ := h
  exact c_X2_choose_8 C hr hlocks hE ho ha1 ha2  n9 (ms_sI u o 0 0) 0  h

/-! CensusWalk$Search.beginAt(LCensusWalk$Town;LCensusWalk$Routes;I)V -/
theorem pd_X2_beginAt : (⟨"CensusWalk$Search", "beginAt", "(LCensusWalk$Town;LCensusWalk$Routes;I)V"⟩ : MethodName).cls = "CensusWalk$Search" ∧ (⟨"CensusWalk$Search", "beginAt", "(LCensusWalk$Town;LCensusWalk$Routes;I)V"⟩ : MethodName).cls ≠ "java/lang/invoke/MethodHandle" ∧ (⟨"CensusWalk$Search", "beginAt", "(LCensusWalk$Town;LCensusWalk$Routes;I)V"⟩ : MethodName).cls ≠ "java/lang/invoke/VarHandle" ∧ (parseMethodDescriptor (⟨"CensusWalk$Search", "beginAt", "(LCensusWalk$Town;LCensusWalk$Routes;I)V"⟩ : MethodName).desc).map (fun d => d.parameters.length) = some 3 := by decide +kernel
def wp_X2_beginAt_28 (E : ms_En) (o : Nat) (a1 : Nat) (a2 : Nat) (a3 : Int32) (post : ms_St → Prop)  : Nat → ms_St → Int32 → Prop
  | 0 => fun _ _ => False
  | n + 1 => fun u x4 => ((ms_I u o 0) ≤ x4 → post u) ∧ (¬ (ms_I u o 0) ≤ x4 → vp_in a3 3 ∧ (vp_in x4 8 ∧ (wp_X1_fromCrossing E u a2 a1 (ms_I u (ms_at E (ms_at E a1 5) 1) (Int32.toNatClampNeg a3)) (ms_I u (ms_at E o 3) (Int32.toNatClampNeg x4)) (fun r61 u61 => vp_in x4 8 ∧ (wp_X2_beginAt_28 E o a1 a2 a3 post n (ms_sI u61 (ms_at E o 8) (Int32.toNatClampNeg x4) r61) (x4 + 1))))))
set_option maxHeartbeats 4000000 in
set_option maxRecDepth 100000 in
theorem c_X2_beginAt_28 {p : Program} {l : Launch} {e : Env} {s : State} {m : MethodId} {args : Array Value} {below : List Frame} {meth : Method} {c : Code} {G : va_G} {cy : Nat → ClassId} {A : Nat → Prop} {L : Nat → Nat} {E : ms_En} (C : ms_Cx p m c cX2_beginAt 5 s args (Cond.code ⟨"CensusWalk$Search", "beginAt", "(LCensusWalk$Town;LCensusWalk$Routes;I)V"⟩ prog_4_method_7_code 5 none) "CensusWalk$Search" G cy A) (hr : meth.sig.returnType = none) (hlocks : meth.locks = false) (hE : ms_WT E) {o : Nat} {a1 : Nat} {a2 : Nat} {a3 : Int32} {post : ms_St → Prop}  (ho : ms_is E o 2) (ha1 : ms_is E a1 7) (ha2 : ms_is E a2 1)  : ∀ (n : Nat) (u : ms_St) (x4 : Int32), wp_X2_beginAt_28 E o a1 a2 a3 post n u x4 → ms_At p l e ({ frames := 4, cells := 0, slots := 0, locals := 93 } : Room) s m args below meth c 5 G cy A L 0 0 (ms_QV below args s G cy L E A post 0 0) E u 28 [(0, .ref (L o)), (1, .ref (L a1)), (2, .ref (L a2)), (3, .int a3), (4, .int x4)] [] := by
  intro n
  induction n with
  | zero =>
    intro u x4  h
    exact absurd h id
  | succ n ih =>
    intro u x4  h
    unfold wp_X2_beginAt_28 at h
    refine a_iload C dX2_beginAt_28 4 rfl rfl ?_
    refine a_aload_n C dX2_beginAt_30 rfl 0 rfl rfl ?_
    refine g_2_0 C dX2_beginAt_31 ho kw_2_98 rfl ?_
    refine a_icmp_ge (tgt := 71) C dX2_beginAt_34 (by decide) rfl (fun hc => ?_) (fun hc => ?_)
    · replace h := h.1 hc
      exact a_vret C dX2_beginAt_71 hr hlocks (Nat.le_of_ble_eq_true rfl) (Nat.le_of_ble_eq_true rfl) h
    · replace h := h.2 hc
      refine a_aload_n C dX2_beginAt_37 rfl 0 rfl rfl ?_
      refine g_2_8 C hE dX2_beginAt_38 ho kw_2_109 rfl ?_
      have k38 : ms_is E (ms_at E o 8) 13 := ms_wt hE ho rfl (by decide)
      have n38 : ms_N E (ms_at E o 8) = 8 := ms_wl hE ho (by decide) (by decide) rfl
      refine a_iload C dX2_beginAt_41 4 rfl rfl ?_
      refine a_aload_n C dX2_beginAt_43 rfl 2 rfl rfl ?_
      refine a_aload_n C dX2_beginAt_44 rfl 1 rfl rfl ?_
      refine a_aload_n C dX2_beginAt_45 rfl 1 rfl rfl ?_
      refine g_7_5 C hE dX2_beginAt_46 ha1 kw_1_187 rfl ?_
      have k46 : ms_is E (ms_at E a1 5) 9 := ms_wt hE ha1 rfl (by decide)
      refine g_9_1 C hE dX2_beginAt_49 k46 kw_1_145 rfl ?_
      have k49 : ms_is E (ms_at E (ms_at E a1 5) 1) 13 := ms_wt hE k46 rfl (by decide)
      have n49 : ms_N E (ms_at E (ms_at E a1 5) 1) = 3 := ms_wl hE k46 (by decide) (by decide) rfl
      refine a_iload_n C dX2_beginAt_52 rfl 3 rfl rfl ?_
      obtain ⟨q53, h⟩ := h
      refine a_iald C dX2_beginAt_53 k49 n49 q53 rfl ?_
      refine a_aload_n C dX2_beginAt_54 rfl 0 rfl rfl ?_
      refine g_2_3 C hE dX2_beginAt_55 ho kw_2_104 rfl ?_
      have k55 : ms_is E (ms_at E o 3) 13 := ms_wt hE ho rfl (by decide)
      have n55 : ms_N E (ms_at E o 3) = 8 := ms_wl hE ho (by decide) (by decide) rfl
      refine a_iload C dX2_beginAt_58 4 rfl rfl ?_
      obtain ⟨q60, h⟩ := h
      refine a_iald C dX2_beginAt_60 k55 n55 q60 rfl ?_
      refine a_callVI C (c_X1_fromCrossing l G cy L E hE u a2 a1 (ms_I u (ms_at E (ms_at E a1 5) 1) (Int32.toNatClampNeg a3)) (ms_I u (ms_at E o 3) (Int32.toNatClampNeg x4)) ha2 ha1 _ h) ha2 rfl (by decide) kw_5_75 kw_3_31 kw_3_32 kw_1_9 kw_3_33 rfl rfl pd_X1_fromCrossing ⟨(Nat.le_of_ble_eq_true rfl), (Nat.le_of_ble_eq_true rfl)⟩ dX2_beginAt_61 rfl (Nat.le_of_ble_eq_true rfl) ⟨(Nat.le_of_ble_eq_true rfl), (Nat.le_of_ble_eq_true rfl)⟩ rfl (fun r61 u61 h => ?_)
      obtain ⟨q64, h⟩ := h
      refine a_iast C dX2_beginAt_64 k38 n38 q64 rfl ?_
      refine a_iinc (lv' := [(0, .ref (L o)), (1, .ref (L a1)), (2, .ref (L a2)), (3, .int a3), (4, .int (x4 + 1))]) (v := (x4 + 1)) C dX2_beginAt_65 4 rfl (congrArg (fun z => x4 + z) (by decide)) (by decide) [1, 2, 3, 4, 0] rfl rfl ?_
      refine a_goto (tgt := 28) C dX2_beginAt_68 (by decide) ?_
      exact ih (ms_sI u61 (ms_at E o 8) (Int32.toNatClampNeg x4) r61) (x4 + 1)  h
def wp_X2_beginAt (E : ms_En) (u : ms_St) (o : Nat) (a1 : Nat) (a2 : Nat) (a3 : Int32) (post : ms_St → Prop) : Prop := wp_X9_has E u (ms_at E a1 5) a3 (fun r5 u5 => (r5 = 0 → post u5) ∧ (¬ r5 = 0 → vp_in a3 3 ∧ (∃ n28, wp_X2_beginAt_28 E o a1 a2 a3 post n28 (ms_sI u5 o 9 (ms_I u5 (ms_at E (ms_at E a1 5) 2) (Int32.toNatClampNeg a3))) 0)))
set_option maxHeartbeats 4000000 in
set_option maxRecDepth 100000 in
theorem c_X2_beginAt (l : Launch) (G : va_G) (cy : Nat → ClassId) (L : Nat → Nat) (E : ms_En) (hE : ms_WT E) (u : ms_St) (o : Nat) (a1 : Nat) (a2 : Nat) (a3 : Int32) (ho : ms_is E o 2) (ha1 : ms_is E a1 7) (ha2 : ms_is E a2 1) (post : ms_St → Prop) (h : wp_X2_beginAt E u o a1 a2 a3 post) : ms_MetV l ⟨"CensusWalk$Search", "beginAt", "(LCensusWalk$Town;LCensusWalk$Routes;I)V"⟩ (Cond.code ⟨"CensusWalk$Search", "beginAt", "(LCensusWalk$Town;LCensusWalk$Routes;I)V"⟩ prog_4_method_7_code 5 none :: lw_g) ({ frames := 4, cells := 0, slots := 0, locals := 93 } : Room) G cy L E [.ref (L o), .ref (L a1), .ref (L a2), .int a3] u post 0 0 := by
  refine ms_enterV (lv := [(0, .ref (L o)), (1, .ref (L a1)), (2, .ref (L a2)), (3, .int a3)]) (by decide) (Nat.le_of_ble_eq_true rfl) rfl ?_
  intro p e s m args below meth c A C hr hlocks
  unfold wp_X2_beginAt at h
  refine a_aload_n C dX2_beginAt_0 rfl 1 rfl rfl ?_
  refine g_7_5 C hE dX2_beginAt_1 ha1 kw_1_187 rfl ?_
  have k1 : ms_is E (ms_at E a1 5) 9 := ms_wt hE ha1 rfl (by decide)
  refine a_iload_n C dX2_beginAt_4 rfl 3 rfl rfl ?_
  refine a_callVI C (c_X9_has l G cy L E hE u (ms_at E a1 5) a3 k1 _ h) k1 rfl (by decide) kw_5_74 kw_3_27 kw_3_28 kw_1_5 kw_3_29 rfl rfl pd_X9_has ⟨(Nat.le_of_ble_eq_true rfl), (Nat.le_of_ble_eq_true rfl)⟩ dX2_beginAt_5 rfl (Nat.le_of_ble_eq_true rfl) ⟨(Nat.le_of_ble_eq_true rfl), (Nat.le_of_ble_eq_true rfl)⟩ rfl (fun r5 u5 h => ?_)
  refine a_if_ne (tgt := 12) C dX2_beginAt_8 (by decide) rfl (fun hc => ?_) (fun hc => ?_)
  · replace h := h.2 hc
    refine a_aload_n C dX2_beginAt_12 rfl 0 rfl rfl ?_
    refine a_aload_n C dX2_beginAt_13 rfl 1 rfl rfl ?_
    refine g_7_5 C hE dX2_beginAt_14 ha1 kw_1_187 rfl ?_
    refine g_9_2 C hE dX2_beginAt_17 k1 kw_1_148 rfl ?_
    have k17 : ms_is E (ms_at E (ms_at E a1 5) 2) 13 := ms_wt hE k1 rfl (by decide)
    have n17 : ms_N E (ms_at E (ms_at E a1 5) 2) = 3 := ms_wl hE k1 (by decide) (by decide) rfl
    refine a_iload_n C dX2_beginAt_20 rfl 3 rfl rfl ?_
    obtain ⟨q21, h⟩ := h
    refine a_iald C dX2_beginAt_21 k17 n17 q21 rfl ?_
    refine s_2_9 C dX2_beginAt_22 ho kw_2_110 rfl ?_
    refine a_iconst (v := 0) C dX2_beginAt_25 (by decide) rfl ?_
    refine a_istore (lv' := [(0, .ref (L o)), (1, .ref (L a1)), (2, .ref (L a2)), (3, .int a3), (4, .int 0)]) C dX2_beginAt_26 (by decide) [1, 2, 3, 4, 0] rfl rfl ?_
    obtain ⟨n9, h⟩ := h
    exact c_X2_beginAt_28 C hr hlocks hE ho ha1 ha2  n9 (ms_sI u5 o 9 (ms_I u5 (ms_at E (ms_at E a1 5) 2) (Int32.toNatClampNeg a3))) 0  h
  · replace h := h.1 hc
    exact a_vret C dX2_beginAt_11 hr hlocks (Nat.le_of_ble_eq_true rfl) (Nat.le_of_ble_eq_true rfl) h

/-! CensusWalk$Search.soonestEnd(LCensusWalk$Town;LCensusWalk$Routes;II)I -/
theorem pd_X2_soonestEnd : (⟨"CensusWalk$Search", "soonestEnd", "(LCensusWalk$Town;LCensusWalk$Routes;II)I"⟩ : MethodName).cls = "CensusWalk$Search" ∧ (⟨"CensusWalk$Search", "soonestEnd", "(LCensusWalk$Town;LCensusWalk$Routes;II)I"⟩ : MethodName).cls ≠ "java/lang/invoke/MethodHandle" ∧ (⟨"CensusWalk$Search", "soonestEnd", "(LCensusWalk$Town;LCensusWalk$Routes;II)I"⟩ : MethodName).cls ≠ "java/lang/invoke/VarHandle" ∧ (parseMethodDescriptor (⟨"CensusWalk$Search", "soonestEnd", "(LCensusWalk$Town;LCensusWalk$Routes;II)I"⟩ : MethodName).desc).map (fun d => d.parameters.length) = some 4 := by decide +kernel
def wp_X2_soonestEnd (E : ms_En) (u : ms_St) (o : Nat) (a1 : Nat) (a2 : Nat) (a3 : Int32) (a4 : Int32) (post : Int32 → ms_St → Prop) : Prop := wp_X2_choose E u o a1 a2 a4 (fun u5 => wp_X2_beginAt E u5 o a1 a2 a3 (fun u12 => wp_X2_findEarly E u12 o (fun u16 => wp_X2_earliestEnd E u16 o ((1 <<< ((ms_I u16 o 0) &&& 31)) - 1) (fun r28 u28 => post r28 u28))))
set_option maxHeartbeats 4000000 in
set_option maxRecDepth 100000 in
theorem c_X2_soonestEnd (l : Launch) (G : va_G) (cy : Nat → ClassId) (L : Nat → Nat) (E : ms_En) (hE : ms_WT E) (u : ms_St) (o : Nat) (a1 : Nat) (a2 : Nat) (a3 : Int32) (a4 : Int32) (ho : ms_is E o 2) (ha1 : ms_is E a1 7) (ha2 : ms_is E a2 1) (post : Int32 → ms_St → Prop) (h : wp_X2_soonestEnd E u o a1 a2 a3 a4 post) : ms_MetI l ⟨"CensusWalk$Search", "soonestEnd", "(LCensusWalk$Town;LCensusWalk$Routes;II)I"⟩ (Cond.code ⟨"CensusWalk$Search", "soonestEnd", "(LCensusWalk$Town;LCensusWalk$Routes;II)I"⟩ prog_4_method_2_code 5 (some .int) :: lw_g) ({ frames := 5, cells := 0, slots := 0, locals := 122 } : Room) G cy L E [.ref (L o), .ref (L a1), .ref (L a2), .int a3, .int a4] u post 0 0 := by
  refine ms_enterI (lv := [(0, .ref (L o)), (1, .ref (L a1)), (2, .ref (L a2)), (3, .int a3), (4, .int a4)]) (by decide) (Nat.le_of_ble_eq_true rfl) rfl ?_
  intro p e s m args below meth c A C hr hlocks
  unfold wp_X2_soonestEnd at h
  refine a_aload_n C dX2_soonestEnd_0 rfl 0 rfl rfl ?_
  refine a_aload_n C dX2_soonestEnd_1 rfl 1 rfl rfl ?_
  refine a_aload_n C dX2_soonestEnd_2 rfl 2 rfl rfl ?_
  refine a_iload C dX2_soonestEnd_3 4 rfl rfl ?_
  refine a_callVV C (c_X2_choose l G cy L E hE u o a1 a2 a4 ho ha1 ha2 _ h) ho rfl (by decide) kw_5_63 kw_5_65 kp_30 kw_1_11 kw_5_66 rfl rfl pd_X2_choose ⟨(Nat.le_of_ble_eq_true rfl), (Nat.le_of_ble_eq_true rfl)⟩ dX2_soonestEnd_5 rfl (Nat.le_of_ble_eq_true rfl) ⟨(Nat.le_of_ble_eq_true rfl), (Nat.le_of_ble_eq_true rfl)⟩ rfl (fun u5 h => ?_)
  refine a_aload_n C dX2_soonestEnd_8 rfl 0 rfl rfl ?_
  refine a_aload_n C dX2_soonestEnd_9 rfl 1 rfl rfl ?_
  refine a_aload_n C dX2_soonestEnd_10 rfl 2 rfl rfl ?_
  refine a_iload_n C dX2_soonestEnd_11 rfl 3 rfl rfl ?_
  refine a_callVV C (c_X2_beginAt l G cy L E hE u5 o a1 a2 a3 ho ha1 ha2 _ h) ho rfl (by decide) kw_5_70 kw_5_72 kp_31 kw_1_11 kw_5_73 rfl rfl pd_X2_beginAt ⟨(Nat.le_of_ble_eq_true rfl), (Nat.le_of_ble_eq_true rfl)⟩ dX2_soonestEnd_12 rfl (Nat.le_of_ble_eq_true rfl) ⟨(Nat.le_of_ble_eq_true rfl), (Nat.le_of_ble_eq_true rfl)⟩ rfl (fun u12 h => ?_)
  refine a_aload_n C dX2_soonestEnd_15 rfl 0 rfl rfl ?_
  refine a_callVV C (c_X2_findEarly l G cy L E hE u12 o ho _ h) ho rfl (by decide) kw_5_76 kw_5_78 kp_32 kw_1_11 kw_5_79 rfl rfl pd_X2_findEarly ⟨(Nat.le_of_ble_eq_true rfl), (Nat.le_of_ble_eq_true rfl)⟩ dX2_soonestEnd_16 rfl (Nat.le_of_ble_eq_true rfl) ⟨(Nat.le_of_ble_eq_true rfl), (Nat.le_of_ble_eq_true rfl)⟩ rfl (fun u16 h => ?_)
  refine a_aload_n C dX2_soonestEnd_19 rfl 0 rfl rfl ?_
  refine a_iconst (v := 1) C dX2_soonestEnd_20 (by decide) rfl ?_
  refine a_aload_n C dX2_soonestEnd_21 rfl 0 rfl rfl ?_
  refine g_2_0 C dX2_soonestEnd_22 ho kw_2_98 rfl ?_
  refine a_ishl C dX2_soonestEnd_25 rfl ?_
  refine a_iconst (v := 1) C dX2_soonestEnd_26 (by decide) rfl ?_
  refine a_isub C dX2_soonestEnd_27 rfl ?_
  refine a_callVI C (c_X2_earliestEnd l G cy L E hE u16 o ((1 <<< ((ms_I u16 o 0) &&& 31)) - 1) ho _ h) ho rfl (by decide) kw_5_93 kw_5_95 kp_35 kw_1_11 kw_5_96 rfl rfl pd_X2_earliestEnd ⟨(Nat.le_of_ble_eq_true rfl), (Nat.le_of_ble_eq_true rfl)⟩ dX2_soonestEnd_28 rfl (Nat.le_of_ble_eq_true rfl) ⟨(Nat.le_of_ble_eq_true rfl), (Nat.le_of_ble_eq_true rfl)⟩ rfl (fun r28 u28 h => ?_)
  exact a_iret C dX2_soonestEnd_31 hr hlocks (Nat.le_of_ble_eq_true rfl) (Nat.le_of_ble_eq_true rfl) h

/-! CensusWalk$Search.chosenWalker(I)I -/
theorem pd_X2_chosenWalker : (⟨"CensusWalk$Search", "chosenWalker", "(I)I"⟩ : MethodName).cls = "CensusWalk$Search" ∧ (⟨"CensusWalk$Search", "chosenWalker", "(I)I"⟩ : MethodName).cls ≠ "java/lang/invoke/MethodHandle" ∧ (⟨"CensusWalk$Search", "chosenWalker", "(I)I"⟩ : MethodName).cls ≠ "java/lang/invoke/VarHandle" ∧ (parseMethodDescriptor (⟨"CensusWalk$Search", "chosenWalker", "(I)I"⟩ : MethodName).desc).map (fun d => d.parameters.length) = some 1 := by decide +kernel
def wp_X2_chosenWalker_55 (E : ms_En) (o : Nat) (a1 : Int32) (post : Int32 → ms_St → Prop) (k12 : ms_St → Int32 → Prop) (k22 : ms_St → Int32 → Int32 → Prop) (u : ms_St) (x2 : Int32) (x3 : Int32) : Prop := k22 u x2 (x3 + 1)
set_option maxHeartbeats 4000000 in
set_option maxRecDepth 100000 in
theorem c_X2_chosenWalker_55 {p : Program} {l : Launch} {e : Env} {s : State} {m : MethodId} {args : Array Value} {below : List Frame} {meth : Method} {c : Code} {G : va_G} {cy : Nat → ClassId} {A : Nat → Prop} {L : Nat → Nat} {E : ms_En} (C : ms_Cx p m c cX2_chosenWalker 4 s args (Cond.code ⟨"CensusWalk$Search", "chosenWalker", "(I)I"⟩ prog_4_method_5_code 4 (some .int)) "CensusWalk$Search" G cy A) (hr : meth.sig.returnType = (some .int)) (hlocks : meth.locks = false) (hE : ms_WT E) {o : Nat} {a1 : Int32} {post : Int32 → ms_St → Prop} {k12 : ms_St → Int32 → Prop} {k22 : ms_St → Int32 → Int32 → Prop} (ho : ms_is E o 2) (hk12 : ∀ (u : ms_St) (x2 : Int32), k12 u x2 → ms_At p l e ({ frames := 1, cells := 0, slots := 0, locals := 21 } : Room) s m args below meth c 4 G cy A L 0 0 (ms_QI below args s G cy L E A post 0 0) E u 12 [(0, .ref (L o)), (1, .int a1), (2, .int x2)] []) (hk22 : ∀ (u : ms_St) (x2 : Int32) (x3 : Int32), k22 u x2 x3 → ms_At p l e ({ frames := 1, cells := 0, slots := 0, locals := 21 } : Room) s m args below meth c 4 G cy A L 0 0 (ms_QI below args s G cy L E A post 0 0) E u 22 [(0, .ref (L o)), (1, .int a1), (2, .int x2), (3, .int x3)] []) (u : ms_St) (x2 : Int32) (x3 : Int32)  (h : wp_X2_chosenWalker_55 E o a1 post k12 k22 u x2 x3) : ms_At p l e ({ frames := 1, cells := 0, slots := 0, locals := 21 } : Room) s m args below meth c 4 G cy A L 0 0 (ms_QI below args s G cy L E A post 0 0) E u 55 [(0, .ref (L o)), (1, .int a1), (2, .int x2), (3, .int x3)] [] := by
  unfold wp_X2_chosenWalker_55 at h
  refine a_iinc (lv' := [(0, .ref (L o)), (1, .int a1), (2, .int x2), (3, .int (x3 + 1))]) (v := (x3 + 1)) C dX2_chosenWalker_55 3 rfl (congrArg (fun z => x3 + z) (by decide)) (by decide) [1, 2, 3, 0] rfl rfl ?_
  refine a_goto (tgt := 22) C dX2_chosenWalker_58 (by decide) ?_
  exact hk22 u x2 (x3 + 1)  h
def wp_X2_chosenWalker_22 (E : ms_En) (o : Nat) (a1 : Int32) (post : Int32 → ms_St → Prop) (k12 : ms_St → Int32 → Prop) : Nat → ms_St → Int32 → Int32 → Prop
  | 0 => fun _ _ _ => False
  | n + 1 => fun u x2 x3 => ((ms_I u o 15) ≤ x3 → k12 u (x2 + 1)) ∧ (¬ (ms_I u o 15) ≤ x3 → vp_in x2 8 ∧ (((ms_I u (ms_at E o 3) (Int32.toNatClampNeg x2)) = a1 → vp_in x3 3 ∧ (wp_X10_contains E u (ms_I u (ms_at E o 14) (Int32.toNatClampNeg x3)) x2 (fun r47 u47 => (r47 = 0 → wp_X2_chosenWalker_55 E o a1 post k12 (wp_X2_chosenWalker_22 E o a1 post k12 n) u47 x2 x3) ∧ (¬ r47 = 0 → post x3 u47)))) ∧ (¬ (ms_I u (ms_at E o 3) (Int32.toNatClampNeg x2)) = a1 → wp_X2_chosenWalker_55 E o a1 post k12 (wp_X2_chosenWalker_22 E o a1 post k12 n) u x2 x3)))
set_option maxHeartbeats 4000000 in
set_option maxRecDepth 100000 in
theorem c_X2_chosenWalker_22 {p : Program} {l : Launch} {e : Env} {s : State} {m : MethodId} {args : Array Value} {below : List Frame} {meth : Method} {c : Code} {G : va_G} {cy : Nat → ClassId} {A : Nat → Prop} {L : Nat → Nat} {E : ms_En} (C : ms_Cx p m c cX2_chosenWalker 4 s args (Cond.code ⟨"CensusWalk$Search", "chosenWalker", "(I)I"⟩ prog_4_method_5_code 4 (some .int)) "CensusWalk$Search" G cy A) (hr : meth.sig.returnType = (some .int)) (hlocks : meth.locks = false) (hE : ms_WT E) {o : Nat} {a1 : Int32} {post : Int32 → ms_St → Prop} {k12 : ms_St → Int32 → Prop} (ho : ms_is E o 2) (hk12 : ∀ (u : ms_St) (x2 : Int32), k12 u x2 → ms_At p l e ({ frames := 1, cells := 0, slots := 0, locals := 21 } : Room) s m args below meth c 4 G cy A L 0 0 (ms_QI below args s G cy L E A post 0 0) E u 12 [(0, .ref (L o)), (1, .int a1), (2, .int x2)] []) : ∀ (n : Nat) (u : ms_St) (x2 : Int32) (x3 : Int32), wp_X2_chosenWalker_22 E o a1 post k12 n u x2 x3 → ms_At p l e ({ frames := 1, cells := 0, slots := 0, locals := 21 } : Room) s m args below meth c 4 G cy A L 0 0 (ms_QI below args s G cy L E A post 0 0) E u 22 [(0, .ref (L o)), (1, .int a1), (2, .int x2), (3, .int x3)] [] := by
  intro n
  induction n with
  | zero =>
    intro u x2 x3  h
    exact absurd h id
  | succ n ih =>
    intro u x2 x3  h
    unfold wp_X2_chosenWalker_22 at h
    refine a_iload_n C dX2_chosenWalker_22 rfl 3 rfl rfl ?_
    refine a_aload_n C dX2_chosenWalker_23 rfl 0 rfl rfl ?_
    refine g_2_15 C dX2_chosenWalker_24 ho kw_2_116 rfl ?_
    refine a_icmp_ge (tgt := 61) C dX2_chosenWalker_27 (by decide) rfl (fun hc => ?_) (fun hc => ?_)
    · replace h := h.1 hc
      refine a_iinc (lv' := [(0, .ref (L o)), (1, .int a1), (2, .int (x2 + 1)), (3, .int x3)]) (v := (x2 + 1)) C dX2_chosenWalker_61 2 rfl (congrArg (fun z => x2 + z) (by decide)) (by decide) [1, 2, 0, 3] rfl rfl ?_
      refine a_goto (tgt := 12) C dX2_chosenWalker_64 (by decide) ?_
      refine a_sub (lv' := [(0, .ref (L o)), (1, .int a1), (2, .int (x2 + 1))]) [0, 1, 2] rfl ?_
      exact hk12 u (x2 + 1)  h
    · replace h := h.2 hc
      refine a_aload_n C dX2_chosenWalker_30 rfl 0 rfl rfl ?_
      refine g_2_3 C hE dX2_chosenWalker_31 ho kw_2_104 rfl ?_
      have k31 : ms_is E (ms_at E o 3) 13 := ms_wt hE ho rfl (by decide)
      have n31 : ms_N E (ms_at E o 3) = 8 := ms_wl hE ho (by decide) (by decide) rfl
      refine a_iload_n C dX2_chosenWalker_34 rfl 2 rfl rfl ?_
      obtain ⟨q35, h⟩ := h
      refine a_iald C dX2_chosenWalker_35 k31 n31 q35 rfl ?_
      refine a_iload_n C dX2_chosenWalker_36 rfl 1 rfl rfl ?_
      refine a_icmp_ne (tgt := 55) C dX2_chosenWalker_37 (by decide) rfl (fun hc => ?_) (fun hc => ?_)
      · replace h := h.2 hc
        exact c_X2_chosenWalker_55 C hr hlocks hE ho hk12 ih u x2 x3  h
      · replace h := h.1 hc
        refine a_aload_n C dX2_chosenWalker_40 rfl 0 rfl rfl ?_
        refine g_2_14 C hE dX2_chosenWalker_41 ho kw_2_115 rfl ?_
        have k41 : ms_is E (ms_at E o 14) 13 := ms_wt hE ho rfl (by decide)
        have n41 : ms_N E (ms_at E o 14) = 3 := ms_wl hE ho (by decide) (by decide) rfl
        refine a_iload_n C dX2_chosenWalker_44 rfl 3 rfl rfl ?_
        obtain ⟨q45, h⟩ := h
        refine a_iald C dX2_chosenWalker_45 k41 n41 q45 rfl ?_
        refine a_iload_n C dX2_chosenWalker_46 rfl 2 rfl rfl ?_
        refine a_callNI C (c_X10_contains l G cy L E hE u (ms_I u (ms_at E o 14) (Int32.toNatClampNeg x3)) x2  _ h) (List.mem_of_getElem? (i := 12) rfl) kw_3_73 kw_1_1 kw_3_74 rfl rfl pd_X10_contains ⟨(Nat.le_of_ble_eq_true rfl), (Nat.le_of_ble_eq_true rfl)⟩ dX2_chosenWalker_47 rfl (Nat.le_of_ble_eq_true rfl) ⟨(Nat.le_of_ble_eq_true rfl), (Nat.le_of_ble_eq_true rfl)⟩ rfl (fun r47 u47 h => ?_)
        refine a_if_eq (tgt := 55) C dX2_chosenWalker_50 (by decide) rfl (fun hc => ?_) (fun hc => ?_)
        · replace h := h.1 hc
          exact c_X2_chosenWalker_55 C hr hlocks hE ho hk12 ih u47 x2 x3  h
        · replace h := h.2 hc
          refine a_iload_n C dX2_chosenWalker_53 rfl 3 rfl rfl ?_
          exact a_iret C dX2_chosenWalker_54 hr hlocks (Nat.le_of_ble_eq_true rfl) (Nat.le_of_ble_eq_true rfl) h
def wp_X2_chosenWalker_12 (E : ms_En) (o : Nat) (a1 : Int32) (post : Int32 → ms_St → Prop)  : Nat → ms_St → Int32 → Prop
  | 0 => fun _ _ => False
  | n + 1 => fun u x2 => ((ms_I u o 0) ≤ x2 → post (-1) u) ∧ (¬ (ms_I u o 0) ≤ x2 → ∃ n22, wp_X2_chosenWalker_22 E o a1 post (wp_X2_chosenWalker_12 E o a1 post n) n22 u x2 0)
set_option maxHeartbeats 4000000 in
set_option maxRecDepth 100000 in
theorem c_X2_chosenWalker_12 {p : Program} {l : Launch} {e : Env} {s : State} {m : MethodId} {args : Array Value} {below : List Frame} {meth : Method} {c : Code} {G : va_G} {cy : Nat → ClassId} {A : Nat → Prop} {L : Nat → Nat} {E : ms_En} (C : ms_Cx p m c cX2_chosenWalker 4 s args (Cond.code ⟨"CensusWalk$Search", "chosenWalker", "(I)I"⟩ prog_4_method_5_code 4 (some .int)) "CensusWalk$Search" G cy A) (hr : meth.sig.returnType = (some .int)) (hlocks : meth.locks = false) (hE : ms_WT E) {o : Nat} {a1 : Int32} {post : Int32 → ms_St → Prop}  (ho : ms_is E o 2)  : ∀ (n : Nat) (u : ms_St) (x2 : Int32), wp_X2_chosenWalker_12 E o a1 post n u x2 → ms_At p l e ({ frames := 1, cells := 0, slots := 0, locals := 21 } : Room) s m args below meth c 4 G cy A L 0 0 (ms_QI below args s G cy L E A post 0 0) E u 12 [(0, .ref (L o)), (1, .int a1), (2, .int x2)] [] := by
  intro n
  induction n with
  | zero =>
    intro u x2  h
    exact absurd h id
  | succ n ih =>
    intro u x2  h
    unfold wp_X2_chosenWalker_12 at h
    refine a_iload_n C dX2_chosenWalker_12 rfl 2 rfl rfl ?_
    refine a_aload_n C dX2_chosenWalker_13 rfl 0 rfl rfl ?_
    refine g_2_0 C dX2_chosenWalker_14 ho kw_2_98 rfl ?_
    refine a_icmp_ge (tgt := 67) C dX2_chosenWalker_17 (by decide) rfl (fun hc => ?_) (fun hc => ?_)
    · replace h := h.1 hc
      refine a_iconst (v := (-1)) C dX2_chosenWalker_67 (by decide) rfl ?_
      exact a_iret C dX2_chosenWalker_68 hr hlocks (Nat.le_of_ble_eq_true rfl) (Nat.le_of_ble_eq_true rfl) h
    · replace h := h.2 hc
      refine a_iconst (v := 0) C dX2_chosenWalker_20 (by decide) rfl ?_
      refine a_istore_n (lv' := [(0, .ref (L o)), (1, .int a1), (2, .int x2), (3, .int 0)]) C dX2_chosenWalker_21 rfl (by decide) [1, 2, 3, 0] rfl rfl ?_
      obtain ⟨n9, h⟩ := h
      exact c_X2_chosenWalker_22 C hr hlocks hE ho ih n9 u x2 0  h
def wp_X2_chosenWalker (E : ms_En) (u : ms_St) (o : Nat) (a1 : Int32) (post : Int32 → ms_St → Prop) : Prop := ((ms_I u o 2) = (-1) → post (-1) u) ∧ (¬ (ms_I u o 2) = (-1) → ∃ n12, wp_X2_chosenWalker_12 E o a1 post n12 u 0)
set_option maxHeartbeats 4000000 in
set_option maxRecDepth 100000 in
theorem c_X2_chosenWalker (l : Launch) (G : va_G) (cy : Nat → ClassId) (L : Nat → Nat) (E : ms_En) (hE : ms_WT E) (u : ms_St) (o : Nat) (a1 : Int32) (ho : ms_is E o 2) (post : Int32 → ms_St → Prop) (h : wp_X2_chosenWalker E u o a1 post) : ms_MetI l ⟨"CensusWalk$Search", "chosenWalker", "(I)I"⟩ (Cond.code ⟨"CensusWalk$Search", "chosenWalker", "(I)I"⟩ prog_4_method_5_code 4 (some .int) :: lw_g) ({ frames := 1, cells := 0, slots := 0, locals := 21 } : Room) G cy L E [.ref (L o), .int a1] u post 0 0 := by
  refine ms_enterI (lv := [(0, .ref (L o)), (1, .int a1)]) (by decide) (Nat.le_of_ble_eq_true rfl) rfl ?_
  intro p e s m args below meth c A C hr hlocks
  unfold wp_X2_chosenWalker at h
  refine a_aload_n C dX2_chosenWalker_0 rfl 0 rfl rfl ?_
  refine g_2_2 C dX2_chosenWalker_1 ho kw_2_102 rfl ?_
  refine a_iconst (v := (-1)) C dX2_chosenWalker_4 (by decide) rfl ?_
  refine a_icmp_ne (tgt := 10) C dX2_chosenWalker_5 (by decide) rfl (fun hc => ?_) (fun hc => ?_)
  · replace h := h.2 hc
    refine a_iconst (v := 0) C dX2_chosenWalker_10 (by decide) rfl ?_
    refine a_istore_n (lv' := [(0, .ref (L o)), (1, .int a1), (2, .int 0)]) C dX2_chosenWalker_11 rfl (by decide) [1, 2, 0] rfl rfl ?_
    obtain ⟨n9, h⟩ := h
    exact c_X2_chosenWalker_12 C hr hlocks hE ho  n9 u 0  h
  · replace h := h.1 hc
    refine a_iconst (v := (-1)) C dX2_chosenWalker_8 (by decide) rfl ?_
    exact a_iret C dX2_chosenWalker_9 hr hlocks (Nat.le_of_ble_eq_true rfl) (Nat.le_of_ble_eq_true rfl) h

/-! CensusWalk$Search.judgeShares()V -/
theorem pd_X2_judgeShares : (⟨"CensusWalk$Search", "judgeShares", "()V"⟩ : MethodName).cls = "CensusWalk$Search" ∧ (⟨"CensusWalk$Search", "judgeShares", "()V"⟩ : MethodName).cls ≠ "java/lang/invoke/MethodHandle" ∧ (⟨"CensusWalk$Search", "judgeShares", "()V"⟩ : MethodName).cls ≠ "java/lang/invoke/VarHandle" ∧ (parseMethodDescriptor (⟨"CensusWalk$Search", "judgeShares", "()V"⟩ : MethodName).desc).map (fun d => d.parameters.length) = some 0 := by decide +kernel
def wp_X2_judgeShares_92 (E : ms_En) (o : Nat) (post : ms_St → Prop)  (u : ms_St)  : Prop := post u
set_option maxHeartbeats 4000000 in
set_option maxRecDepth 100000 in
theorem c_X2_judgeShares_92 {p : Program} {l : Launch} {e : Env} {s : State} {m : MethodId} {args : Array Value} {below : List Frame} {meth : Method} {c : Code} {G : va_G} {cy : Nat → ClassId} {A : Nat → Prop} {L : Nat → Nat} {E : ms_En} (C : ms_Cx p m c cX2_judgeShares 4 s args (Cond.code ⟨"CensusWalk$Search", "judgeShares", "()V"⟩ prog_4_method_19_code 4 none) "CensusWalk$Search" G cy A) (hr : meth.sig.returnType = none) (hlocks : meth.locks = false) (hE : ms_WT E) {o : Nat} {post : ms_St → Prop}  (ho : ms_is E o 2)  (u : ms_St)   (h : wp_X2_judgeShares_92 E o post u ) : ms_At p l e ({ frames := 1, cells := 0, slots := 0, locals := 60 } : Room) s m args below meth c 4 G cy A L 0 0 (ms_QV below args s G cy L E A post 0 0) E u 92 [] [] := by
  unfold wp_X2_judgeShares_92 at h
  exact a_vret C dX2_judgeShares_92 hr hlocks (Nat.le_of_ble_eq_true rfl) (Nat.le_of_ble_eq_true rfl) h
def wp_X2_judgeShares_73 (E : ms_En) (o : Nat) (post : ms_St → Prop)  (u : ms_St) (x1 : Int32) : Prop := ∀ w89 : ms_St, w89 = (ms_sA (ms_sI u o 2 x1) (ms_at E o 14) (va_cpy (ms_I (ms_sI u o 2 x1) (ms_at E o 13)) (ms_I (ms_sI u o 2 x1) (ms_at E o 14)) 0 0 3)) → (wp_X2_judgeShares_92 E o post w89)
set_option maxHeartbeats 4000000 in
set_option maxRecDepth 100000 in
theorem c_X2_judgeShares_73 {p : Program} {l : Launch} {e : Env} {s : State} {m : MethodId} {args : Array Value} {below : List Frame} {meth : Method} {c : Code} {G : va_G} {cy : Nat → ClassId} {A : Nat → Prop} {L : Nat → Nat} {E : ms_En} (C : ms_Cx p m c cX2_judgeShares 4 s args (Cond.code ⟨"CensusWalk$Search", "judgeShares", "()V"⟩ prog_4_method_19_code 4 none) "CensusWalk$Search" G cy A) (hr : meth.sig.returnType = none) (hlocks : meth.locks = false) (hE : ms_WT E) {o : Nat} {post : ms_St → Prop}  (ho : ms_is E o 2)  (u : ms_St) (x1 : Int32)  (h : wp_X2_judgeShares_73 E o post u x1) : ms_At p l e ({ frames := 1, cells := 0, slots := 0, locals := 60 } : Room) s m args below meth c 4 G cy A L 0 0 (ms_QV below args s G cy L E A post 0 0) E u 73 [(0, .ref (L o)), (1, .int x1)] [] := by
  unfold wp_X2_judgeShares_73 at h
  refine a_aload_n C dX2_judgeShares_73 rfl 0 rfl rfl ?_
  refine a_iload_n C dX2_judgeShares_74 rfl 1 rfl rfl ?_
  refine s_2_2 C dX2_judgeShares_75 ho kw_2_102 rfl ?_
  refine a_aload_n C dX2_judgeShares_78 rfl 0 rfl rfl ?_
  refine g_2_13 C hE dX2_judgeShares_79 ho kw_2_114 rfl ?_
  have k79 : ms_is E (ms_at E o 13) 13 := ms_wt hE ho rfl (by decide)
  have n79 : ms_N E (ms_at E o 13) = 3 := ms_wl hE ho (by decide) (by decide) rfl
  refine a_iconst (v := 0) C dX2_judgeShares_82 (by decide) rfl ?_
  refine a_aload_n C dX2_judgeShares_83 rfl 0 rfl rfl ?_
  refine g_2_14 C hE dX2_judgeShares_84 ho kw_2_115 rfl ?_
  have k84 : ms_is E (ms_at E o 14) 13 := ms_wt hE ho rfl (by decide)
  have n84 : ms_N E (ms_at E o 14) = 3 := ms_wl hE ho (by decide) (by decide) rfl
  refine a_iconst (v := 0) C dX2_judgeShares_87 (by decide) rfl ?_
  refine a_iconst (v := 3) C dX2_judgeShares_88 (by decide) rfl ?_
  have q89 : ¬ (0 : Int32) < 0 ∧ ¬ (0 : Int32) < 0 ∧ ¬ (3 : Int32) < 0 ∧ (0 : Int32).toNatClampNeg + (3 : Int32).toNatClampNeg ≤ 3 ∧ (0 : Int32).toNatClampNeg + (3 : Int32).toNatClampNeg ≤ 3 := by decide
  refine a_copyi C dX2_judgeShares_89 k79 k84 n79 n84 kw_5_148 kw_3_108 kw_3_107 kw_1_22 q89.1 q89.2.1 q89.2.2.1 q89.2.2.2.1 q89.2.2.2.2 (Nat.le_of_ble_eq_true rfl) (Nat.le_of_ble_eq_true rfl) rfl ?_
  refine a_nmU (fun w89 e89 => ?_)
  replace h := h w89 e89
  refine a_sub (lv' := []) [] rfl ?_
  exact c_X2_judgeShares_92 C hr hlocks hE ho  w89  h
def wp_X2_judgeShares_51 (E : ms_En) (o : Nat) (post : ms_St → Prop) (k4 : ms_St → Int32 → Int32 → Prop) (u : ms_St) (x1 : Int32) (x2 : Int32) : Prop := k4 u x1 (x2 + 1)
set_option maxHeartbeats 4000000 in
set_option maxRecDepth 100000 in
theorem c_X2_judgeShares_51 {p : Program} {l : Launch} {e : Env} {s : State} {m : MethodId} {args : Array Value} {below : List Frame} {meth : Method} {c : Code} {G : va_G} {cy : Nat → ClassId} {A : Nat → Prop} {L : Nat → Nat} {E : ms_En} (C : ms_Cx p m c cX2_judgeShares 4 s args (Cond.code ⟨"CensusWalk$Search", "judgeShares", "()V"⟩ prog_4_method_19_code 4 none) "CensusWalk$Search" G cy A) (hr : meth.sig.returnType = none) (hlocks : meth.locks = false) (hE : ms_WT E) {o : Nat} {post : ms_St → Prop} {k4 : ms_St → Int32 → Int32 → Prop} (ho : ms_is E o 2) (hk4 : ∀ (u : ms_St) (x1 : Int32) (x2 : Int32), k4 u x1 x2 → ms_At p l e ({ frames := 1, cells := 0, slots := 0, locals := 60 } : Room) s m args below meth c 4 G cy A L 0 0 (ms_QV below args s G cy L E A post 0 0) E u 4 [(0, .ref (L o)), (1, .int x1), (2, .int x2)] []) (u : ms_St) (x1 : Int32) (x2 : Int32)  (h : wp_X2_judgeShares_51 E o post k4 u x1 x2) : ms_At p l e ({ frames := 1, cells := 0, slots := 0, locals := 60 } : Room) s m args below meth c 4 G cy A L 0 0 (ms_QV below args s G cy L E A post 0 0) E u 51 [(0, .ref (L o)), (1, .int x1), (2, .int x2)] [] := by
  unfold wp_X2_judgeShares_51 at h
  refine a_iinc (lv' := [(0, .ref (L o)), (1, .int x1), (2, .int (x2 + 1))]) (v := (x2 + 1)) C dX2_judgeShares_51 2 rfl (congrArg (fun z => x2 + z) (by decide)) (by decide) [1, 2, 0] rfl rfl ?_
  refine a_goto (tgt := 4) C dX2_judgeShares_54 (by decide) ?_
  exact hk4 u x1 (x2 + 1)  h
def wp_X2_judgeShares_4 (E : ms_En) (o : Nat) (post : ms_St → Prop)  : Nat → ms_St → Int32 → Int32 → Prop
  | 0 => fun _ _ _ => False
  | n + 1 => fun u x1 x2 => ((ms_I u o 15) ≤ x2 → ((ms_I u o 2) = (-1) → wp_X2_judgeShares_73 E o post u x1) ∧ (¬ (ms_I u o 2) = (-1) → ((ms_I u o 2) ≤ x1 → wp_X2_judgeShares_92 E o post u) ∧ (¬ (ms_I u o 2) ≤ x1 → wp_X2_judgeShares_73 E o post u x1))) ∧ (¬ (ms_I u o 15) ≤ x2 → vp_in x2 3 ∧ (((ms_I u (ms_at E o 13) (Int32.toNatClampNeg x2)) = 0 → wp_X2_judgeShares_51 E o post (wp_X2_judgeShares_4 E o post n) u x1 x2) ∧ (¬ (ms_I u (ms_at E o 13) (Int32.toNatClampNeg x2)) = 0 → vp_in x2 3 ∧ (vp_in ((x2 * 256) + (ms_I u (ms_at E o 13) (Int32.toNatClampNeg x2))) 768 ∧ (∀ v38 : Int32, v38 = (ms_I u (ms_at E o 12) (Int32.toNatClampNeg ((x2 * 256) + (ms_I u (ms_at E o 13) (Int32.toNatClampNeg x2))))) → ((v38 = (-1) → post u) ∧ (¬ v38 = (-1) → ∀ v50 : Int32, v50 = (if x1 < v38 then v38 else x1) → (wp_X2_judgeShares_51 E o post (wp_X2_judgeShares_4 E o post n) u v50 x2))))))))
set_option maxHeartbeats 4000000 in
set_option maxRecDepth 100000 in
theorem c_X2_judgeShares_4 {p : Program} {l : Launch} {e : Env} {s : State} {m : MethodId} {args : Array Value} {below : List Frame} {meth : Method} {c : Code} {G : va_G} {cy : Nat → ClassId} {A : Nat → Prop} {L : Nat → Nat} {E : ms_En} (C : ms_Cx p m c cX2_judgeShares 4 s args (Cond.code ⟨"CensusWalk$Search", "judgeShares", "()V"⟩ prog_4_method_19_code 4 none) "CensusWalk$Search" G cy A) (hr : meth.sig.returnType = none) (hlocks : meth.locks = false) (hE : ms_WT E) {o : Nat} {post : ms_St → Prop}  (ho : ms_is E o 2)  : ∀ (n : Nat) (u : ms_St) (x1 : Int32) (x2 : Int32), wp_X2_judgeShares_4 E o post n u x1 x2 → ms_At p l e ({ frames := 1, cells := 0, slots := 0, locals := 60 } : Room) s m args below meth c 4 G cy A L 0 0 (ms_QV below args s G cy L E A post 0 0) E u 4 [(0, .ref (L o)), (1, .int x1), (2, .int x2)] [] := by
  intro n
  induction n with
  | zero =>
    intro u x1 x2  h
    exact absurd h id
  | succ n ih =>
    intro u x1 x2  h
    unfold wp_X2_judgeShares_4 at h
    refine a_iload_n C dX2_judgeShares_4 rfl 2 rfl rfl ?_
    refine a_aload_n C dX2_judgeShares_5 rfl 0 rfl rfl ?_
    refine g_2_15 C dX2_judgeShares_6 ho kw_2_116 rfl ?_
    refine a_icmp_ge (tgt := 57) C dX2_judgeShares_9 (by decide) rfl (fun hc => ?_) (fun hc => ?_)
    · replace h := h.1 hc
      refine a_aload_n C dX2_judgeShares_57 rfl 0 rfl rfl ?_
      refine g_2_2 C dX2_judgeShares_58 ho kw_2_102 rfl ?_
      refine a_iconst (v := (-1)) C dX2_judgeShares_61 (by decide) rfl ?_
      refine a_icmp_eq (tgt := 73) C dX2_judgeShares_62 (by decide) rfl (fun hc => ?_) (fun hc => ?_)
      · replace h := h.1 hc
        refine a_sub (lv' := [(0, .ref (L o)), (1, .int x1)]) [0, 1] rfl ?_
        exact c_X2_judgeShares_73 C hr hlocks hE ho  u x1  h
      · replace h := h.2 hc
        refine a_iload_n C dX2_judgeShares_65 rfl 1 rfl rfl ?_
        refine a_aload_n C dX2_judgeShares_66 rfl 0 rfl rfl ?_
        refine g_2_2 C dX2_judgeShares_67 ho kw_2_102 rfl ?_
        refine a_icmp_ge (tgt := 92) C dX2_judgeShares_70 (by decide) rfl (fun hc => ?_) (fun hc => ?_)
        · replace h := h.1 hc
          refine a_sub (lv' := []) [] rfl ?_
          exact c_X2_judgeShares_92 C hr hlocks hE ho  u  h
        · replace h := h.2 hc
          refine a_sub (lv' := [(0, .ref (L o)), (1, .int x1)]) [0, 1] rfl ?_
          exact c_X2_judgeShares_73 C hr hlocks hE ho  u x1  h
    · replace h := h.2 hc
      refine a_aload_n C dX2_judgeShares_12 rfl 0 rfl rfl ?_
      refine g_2_13 C hE dX2_judgeShares_13 ho kw_2_114 rfl ?_
      have k13 : ms_is E (ms_at E o 13) 13 := ms_wt hE ho rfl (by decide)
      have n13 : ms_N E (ms_at E o 13) = 3 := ms_wl hE ho (by decide) (by decide) rfl
      refine a_iload_n C dX2_judgeShares_16 rfl 2 rfl rfl ?_
      obtain ⟨q17, h⟩ := h
      refine a_iald C dX2_judgeShares_17 k13 n13 q17 rfl ?_
      refine a_if_eq (tgt := 51) C dX2_judgeShares_18 (by decide) rfl (fun hc => ?_) (fun hc => ?_)
      · replace h := h.1 hc
        exact c_X2_judgeShares_51 C hr hlocks hE ho ih u x1 x2  h
      · replace h := h.2 hc
        refine a_aload_n C dX2_judgeShares_21 rfl 0 rfl rfl ?_
        refine g_2_12 C hE dX2_judgeShares_22 ho kw_2_113 rfl ?_
        have k22 : ms_is E (ms_at E o 12) 13 := ms_wt hE ho rfl (by decide)
        have n22 : ms_N E (ms_at E o 12) = 768 := ms_wl hE ho (by decide) (by decide) rfl
        refine a_iload_n C dX2_judgeShares_25 rfl 2 rfl rfl ?_
        refine a_sipush (v := 256) C dX2_judgeShares_26 (by decide) rfl ?_
        refine a_imul C dX2_judgeShares_29 rfl ?_
        refine a_aload_n C dX2_judgeShares_30 rfl 0 rfl rfl ?_
        refine g_2_13 C hE dX2_judgeShares_31 ho kw_2_114 rfl ?_
        refine a_iload_n C dX2_judgeShares_34 rfl 2 rfl rfl ?_
        obtain ⟨q35, h⟩ := h
        refine a_iald C dX2_judgeShares_35 k13 n13 q35 rfl ?_
        refine a_iadd C dX2_judgeShares_36 rfl ?_
        obtain ⟨q37, h⟩ := h
        refine a_iald C dX2_judgeShares_37 k22 n22 q37 rfl ?_
        refine a_nmI (fun v38 e38 => ?_)
        replace h := h v38 e38
        refine a_istore_n (lv' := [(0, .ref (L o)), (1, .int x1), (2, .int x2), (3, .int v38)]) C dX2_judgeShares_38 rfl (by decide) [1, 2, 3, 0] rfl rfl ?_
        refine a_iload_n C dX2_judgeShares_39 rfl 3 rfl rfl ?_
        refine a_iconst (v := (-1)) C dX2_judgeShares_40 (by decide) rfl ?_
        refine a_icmp_ne (tgt := 45) C dX2_judgeShares_41 (by decide) rfl (fun hc => ?_) (fun hc => ?_)
        · replace h := h.2 hc
          refine a_iload_n C dX2_judgeShares_45 rfl 1 rfl rfl ?_
          refine a_iload_n C dX2_judgeShares_46 rfl 3 rfl rfl ?_
          refine a_mmax C dX2_judgeShares_47 kw_5_88 kw_3_61 kw_1_17 kw_3_62 (Nat.le_of_ble_eq_true rfl) (Nat.le_of_ble_eq_true rfl) (Nat.le_of_ble_eq_true rfl) (Nat.le_of_ble_eq_true rfl) rfl ?_
          refine a_nmI (fun v50 e50 => ?_)
          replace h := h v50 e50
          refine a_istore_n (lv' := [(0, .ref (L o)), (1, .int v50), (2, .int x2), (3, .int v38)]) C dX2_judgeShares_50 rfl (by decide) [1, 0, 2, 3] rfl rfl ?_
          refine a_sub (lv' := [(0, .ref (L o)), (1, .int v50), (2, .int x2)]) [0, 1, 2] rfl ?_
          exact c_X2_judgeShares_51 C hr hlocks hE ho ih u v50 x2  h
        · replace h := h.1 hc
          exact a_vret C dX2_judgeShares_44 hr hlocks (Nat.le_of_ble_eq_true rfl) (Nat.le_of_ble_eq_true rfl) h
def wp_X2_judgeShares (E : ms_En) (u : ms_St) (o : Nat) (post : ms_St → Prop) : Prop := ∃ n4, wp_X2_judgeShares_4 E o post n4 u 0 0
set_option maxHeartbeats 4000000 in
set_option maxRecDepth 100000 in
theorem c_X2_judgeShares (l : Launch) (G : va_G) (cy : Nat → ClassId) (L : Nat → Nat) (E : ms_En) (hE : ms_WT E) (u : ms_St) (o : Nat) (ho : ms_is E o 2) (post : ms_St → Prop) (h : wp_X2_judgeShares E u o post) : ms_MetV l ⟨"CensusWalk$Search", "judgeShares", "()V"⟩ (Cond.code ⟨"CensusWalk$Search", "judgeShares", "()V"⟩ prog_4_method_19_code 4 none :: lw_g) ({ frames := 1, cells := 0, slots := 0, locals := 60 } : Room) G cy L E [.ref (L o)] u post 0 0 := by
  refine ms_enterV (lv := [(0, .ref (L o))]) (by decide) (Nat.le_of_ble_eq_true rfl) rfl ?_
  intro p e s m args below meth c A C hr hlocks
  unfold wp_X2_judgeShares at h
  refine a_iconst (v := 0) C dX2_judgeShares_0 (by decide) rfl ?_
  refine a_istore_n (lv' := [(0, .ref (L o)), (1, .int 0)]) C dX2_judgeShares_1 rfl (by decide) [1, 0] rfl rfl ?_
  refine a_iconst (v := 0) C dX2_judgeShares_2 (by decide) rfl ?_
  refine a_istore_n (lv' := [(0, .ref (L o)), (1, .int 0), (2, .int 0)]) C dX2_judgeShares_3 rfl (by decide) [1, 2, 0] rfl rfl ?_
  obtain ⟨n9, h⟩ := h
  exact c_X2_judgeShares_4 C hr hlocks hE ho  n9 u 0 0  h
