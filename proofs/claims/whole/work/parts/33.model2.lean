/-! CensusWalkModel.soonestOrder(III)I -/
theorem pd_X11_soonestOrder : (⟨"CensusWalkModel", "soonestOrder", "(III)I"⟩ : MethodName).cls = "CensusWalkModel" ∧ (⟨"CensusWalkModel", "soonestOrder", "(III)I"⟩ : MethodName).cls ≠ "java/lang/invoke/MethodHandle" ∧ (⟨"CensusWalkModel", "soonestOrder", "(III)I"⟩ : MethodName).cls ≠ "java/lang/invoke/VarHandle" ∧ (parseMethodDescriptor (⟨"CensusWalkModel", "soonestOrder", "(III)I"⟩ : MethodName).desc).map (fun d => d.parameters.length) = some 3 := by decide +kernel
def wp_X11_soonestOrder_38 (E : ms_En) (o : Nat) (a1 : Int32) (a2 : Int32) (a3 : Int32) (post : Int32 → ms_St → Prop)  (u : ms_St)  : Prop := post 0 u
set_option maxHeartbeats 4000000 in
set_option maxRecDepth 100000 in
theorem c_X11_soonestOrder_38 {p : Program} {l : Launch} {e : Env} {s : State} {m : MethodId} {args : Array Value} {below : List Frame} {meth : Method} {c : Code} {G : va_G} {cy : Nat → ClassId} {A : Nat → Prop} {L : Nat → Nat} {E : ms_En} (C : ms_Cx p m c cX11_soonestOrder 5 s args (Cond.code ⟨"CensusWalkModel", "soonestOrder", "(III)I"⟩ prog_13_method_81_code 5 (some .int)) "CensusWalkModel" G cy A) (hr : meth.sig.returnType = (some .int)) (hlocks : meth.locks = false) (hE : ms_WT E) {o : Nat} {a1 : Int32} {a2 : Int32} {a3 : Int32} {post : Int32 → ms_St → Prop}  (ho : ms_is E o 11)  (u : ms_St)   (h : wp_X11_soonestOrder_38 E o a1 a2 a3 post u ) : ms_At p l e ({ frames := 57, cells := 0, slots := 0, locals := 3187 } : Room) s m args below meth c 5 G cy A L 0 0 (ms_QI below args s G cy L E A post 0 0) E u 38 [] [] := by
  unfold wp_X11_soonestOrder_38 at h
  refine a_iconst (v := 0) C dX11_soonestOrder_38 (by decide) rfl ?_
  exact a_iret C dX11_soonestOrder_39 hr hlocks (Nat.le_of_ble_eq_true rfl) (Nat.le_of_ble_eq_true rfl) h
def wp_X11_soonestOrder_84 (E : ms_En) (o : Nat) (a1 : Int32) (a2 : Int32) (a3 : Int32) (post : Int32 → ms_St → Prop)  (u : ms_St)  : Prop := post (-1) u
set_option maxHeartbeats 4000000 in
set_option maxRecDepth 100000 in
theorem c_X11_soonestOrder_84 {p : Program} {l : Launch} {e : Env} {s : State} {m : MethodId} {args : Array Value} {below : List Frame} {meth : Method} {c : Code} {G : va_G} {cy : Nat → ClassId} {A : Nat → Prop} {L : Nat → Nat} {E : ms_En} (C : ms_Cx p m c cX11_soonestOrder 5 s args (Cond.code ⟨"CensusWalkModel", "soonestOrder", "(III)I"⟩ prog_13_method_81_code 5 (some .int)) "CensusWalkModel" G cy A) (hr : meth.sig.returnType = (some .int)) (hlocks : meth.locks = false) (hE : ms_WT E) {o : Nat} {a1 : Int32} {a2 : Int32} {a3 : Int32} {post : Int32 → ms_St → Prop}  (ho : ms_is E o 11)  (u : ms_St)   (h : wp_X11_soonestOrder_84 E o a1 a2 a3 post u ) : ms_At p l e ({ frames := 57, cells := 0, slots := 0, locals := 3187 } : Room) s m args below meth c 5 G cy A L 0 0 (ms_QI below args s G cy L E A post 0 0) E u 84 [] [] := by
  unfold wp_X11_soonestOrder_84 at h
  refine a_iconst (v := (-1)) C dX11_soonestOrder_84 (by decide) rfl ?_
  exact a_iret C dX11_soonestOrder_85 hr hlocks (Nat.le_of_ble_eq_true rfl) (Nat.le_of_ble_eq_true rfl) h
def wp_X11_soonestOrder_31 (E : ms_En) (o : Nat) (a1 : Int32) (a2 : Int32) (a3 : Int32) (post : Int32 → ms_St → Prop)  (u : ms_St) (z0 : Int32) (z1 : Nat) : Prop := wp_X11_fails E u z1 z0 2 (fun r32 u32 => (r32 = 0 → wp_X11_findWays E u32 o (fun u41 => wp_X11_lays E u41 o a2 (fun u46 => wp_X11_findSoonest E u46 o a1 (fun u51 => wp_X11_soonestOf E u51 o a1 ((1 <<< ((ms_I u51 o 27) &&& 31)) - 1) (fun r64 u64 => (1000000 ≤ r64 → wp_X11_soonestOrder_84 E o a1 a2 a3 post u64) ∧ (¬ 1000000 ≤ r64 → (a3 < (ms_I u64 o 27) → wp_X11_walker E (ms_sI u64 o 29 0) a1 (fun r100 u100 => vp_in (r100 + 1) 1613 ∧ (WP_X11_tryOrders E 9 u100 o a1 0 0 (ms_I u100 (ms_at E o 8) (Int32.toNatClampNeg (r100 + 1))) r64 (fun u108 => vp_in a3 8 ∧ (vp_in (ms_I u108 (ms_at E o 28) (Int32.toNatClampNeg a3)) 8 ∧ (post (ms_I u108 (ms_at E o 26) (Int32.toNatClampNeg (ms_I u108 (ms_at E o 28) (Int32.toNatClampNeg a3)))) u108)))))) ∧ (¬ a3 < (ms_I u64 o 27) → wp_X11_soonestOrder_84 E o a1 a2 a3 post u64))))))) ∧ (¬ r32 = 0 → wp_X11_soonestOrder_38 E o a1 a2 a3 post u32))
set_option maxHeartbeats 4000000 in
set_option maxRecDepth 100000 in
theorem c_X11_soonestOrder_31 {p : Program} {l : Launch} {e : Env} {s : State} {m : MethodId} {args : Array Value} {below : List Frame} {meth : Method} {c : Code} {G : va_G} {cy : Nat → ClassId} {A : Nat → Prop} {L : Nat → Nat} {E : ms_En} (C : ms_Cx p m c cX11_soonestOrder 5 s args (Cond.code ⟨"CensusWalkModel", "soonestOrder", "(III)I"⟩ prog_13_method_81_code 5 (some .int)) "CensusWalkModel" G cy A) (hr : meth.sig.returnType = (some .int)) (hlocks : meth.locks = false) (hE : ms_WT E) {o : Nat} {a1 : Int32} {a2 : Int32} {a3 : Int32} {post : Int32 → ms_St → Prop}  (ho : ms_is E o 11)  (u : ms_St) (z0 : Int32) (z1 : Nat) (k_z1 : ms_is E z1 11) (h : wp_X11_soonestOrder_31 E o a1 a2 a3 post u z0 z1) : ms_At p l e ({ frames := 57, cells := 0, slots := 0, locals := 3187 } : Room) s m args below meth c 5 G cy A L 0 0 (ms_QI below args s G cy L E A post 0 0) E u 31 [(0, .ref (L o)), (1, .int a1), (2, .int a2), (3, .int a3)] [.int z0, .ref (L z1)] := by
  unfold wp_X11_soonestOrder_31 at h
  refine a_iconst (v := 2) C dX11_soonestOrder_31 (by decide) rfl ?_
  refine a_callVI C (c_X11_fails l G cy L E hE u z1 z0 2 k_z1 _ h) k_z1 rfl (by decide) kw_6_101 kw_6_103 kp_43 kw_1_12 kw_6_104 rfl rfl pd_X11_fails ⟨(Nat.le_of_ble_eq_true rfl), (Nat.le_of_ble_eq_true rfl)⟩ dX11_soonestOrder_32 rfl (Nat.le_of_ble_eq_true rfl) ⟨(Nat.le_of_ble_eq_true rfl), (Nat.le_of_ble_eq_true rfl)⟩ rfl (fun r32 u32 h => ?_)
  refine a_if_eq (tgt := 40) C dX11_soonestOrder_35 (by decide) rfl (fun hc => ?_) (fun hc => ?_)
  · replace h := h.1 hc
    refine a_aload_n C dX11_soonestOrder_40 rfl 0 rfl rfl ?_
    refine a_callVV C (c_X11_findWays l G cy L E hE u32 o ho _ h) ho rfl (by decide) kw_6_232 kw_6_234 kp_62 kw_1_12 kw_6_235 rfl rfl pd_X11_findWays ⟨(Nat.le_of_ble_eq_true rfl), (Nat.le_of_ble_eq_true rfl)⟩ dX11_soonestOrder_41 rfl (Nat.le_of_ble_eq_true rfl) ⟨(Nat.le_of_ble_eq_true rfl), (Nat.le_of_ble_eq_true rfl)⟩ rfl (fun u41 h => ?_)
    refine a_aload_n C dX11_soonestOrder_44 rfl 0 rfl rfl ?_
    refine a_iload_n C dX11_soonestOrder_45 rfl 2 rfl rfl ?_
    refine a_callVV C (c_X11_lays l G cy L E hE u41 o a2 ho _ h) ho rfl (by decide) kw_7_147 kw_7_149 kp_81 kw_1_12 kw_7_150 rfl rfl pd_X11_lays ⟨(Nat.le_of_ble_eq_true rfl), (Nat.le_of_ble_eq_true rfl)⟩ dX11_soonestOrder_46 rfl (Nat.le_of_ble_eq_true rfl) ⟨(Nat.le_of_ble_eq_true rfl), (Nat.le_of_ble_eq_true rfl)⟩ rfl (fun u46 h => ?_)
    refine a_aload_n C dX11_soonestOrder_49 rfl 0 rfl rfl ?_
    refine a_iload_n C dX11_soonestOrder_50 rfl 1 rfl rfl ?_
    refine a_callVV C (c_X11_findSoonest l G cy L E hE u46 o a1 ho _ h) ho rfl (by decide) kw_7_151 kw_7_153 kp_82 kw_1_12 kw_7_154 rfl rfl pd_X11_findSoonest ⟨(Nat.le_of_ble_eq_true rfl), (Nat.le_of_ble_eq_true rfl)⟩ dX11_soonestOrder_51 rfl (Nat.le_of_ble_eq_true rfl) ⟨(Nat.le_of_ble_eq_true rfl), (Nat.le_of_ble_eq_true rfl)⟩ rfl (fun u51 h => ?_)
    refine a_aload_n C dX11_soonestOrder_54 rfl 0 rfl rfl ?_
    refine a_iload_n C dX11_soonestOrder_55 rfl 1 rfl rfl ?_
    refine a_iconst (v := 1) C dX11_soonestOrder_56 (by decide) rfl ?_
    refine a_aload_n C dX11_soonestOrder_57 rfl 0 rfl rfl ?_
    refine g_11_27 C dX11_soonestOrder_58 ho kw_6_9 rfl ?_
    refine a_ishl C dX11_soonestOrder_61 rfl ?_
    refine a_iconst (v := 1) C dX11_soonestOrder_62 (by decide) rfl ?_
    refine a_isub C dX11_soonestOrder_63 rfl ?_
    refine a_callVI C (c_X11_soonestOf l G cy L E hE u51 o a1 ((1 <<< ((ms_I u51 o 27) &&& 31)) - 1) ho _ h) ho rfl (by decide) kw_7_163 kw_7_165 kp_85 kw_1_12 kw_7_166 rfl rfl pd_X11_soonestOf ⟨(Nat.le_of_ble_eq_true rfl), (Nat.le_of_ble_eq_true rfl)⟩ dX11_soonestOrder_64 rfl (Nat.le_of_ble_eq_true rfl) ⟨(Nat.le_of_ble_eq_true rfl), (Nat.le_of_ble_eq_true rfl)⟩ rfl (fun r64 u64 h => ?_)
    refine a_istore (lv' := [(0, .ref (L o)), (1, .int a1), (2, .int a2), (3, .int a3), (4, .int r64)]) C dX11_soonestOrder_67 (by decide) [1, 2, 3, 4, 0] rfl rfl ?_
    refine a_iload C dX11_soonestOrder_69 4 rfl rfl ?_
    refine a_ldc (v := 1000000) C dX11_soonestOrder_71 kw_6_135 rfl ?_
    refine a_icmp_ge (tgt := 84) C dX11_soonestOrder_73 (by decide) rfl (fun hc => ?_) (fun hc => ?_)
    · replace h := h.1 hc
      refine a_sub (lv' := []) [] rfl ?_
      exact c_X11_soonestOrder_84 C hr hlocks hE ho  u64  h
    · replace h := h.2 hc
      refine a_iload_n C dX11_soonestOrder_76 rfl 3 rfl rfl ?_
      refine a_aload_n C dX11_soonestOrder_77 rfl 0 rfl rfl ?_
      refine g_11_27 C dX11_soonestOrder_78 ho kw_6_9 rfl ?_
      refine a_icmp_lt (tgt := 86) C dX11_soonestOrder_81 (by decide) rfl (fun hc => ?_) (fun hc => ?_)
      · replace h := h.1 hc
        refine a_aload_n C dX11_soonestOrder_86 rfl 0 rfl rfl ?_
        refine a_iconst (v := 0) C dX11_soonestOrder_87 (by decide) rfl ?_
        refine s_11_29 C dX11_soonestOrder_88 ho kw_6_11 rfl rfl rfl ?_
        refine a_aload_n C dX11_soonestOrder_91 rfl 0 rfl rfl ?_
        refine a_iload_n C dX11_soonestOrder_92 rfl 1 rfl rfl ?_
        refine a_iconst (v := 0) C dX11_soonestOrder_93 (by decide) rfl ?_
        refine a_iconst (v := 0) C dX11_soonestOrder_94 (by decide) rfl ?_
        refine a_aload_n C dX11_soonestOrder_95 rfl 0 rfl rfl ?_
        refine g_11_8 C hE dX11_soonestOrder_96 ho kw_5_230 rfl ?_
        have k96 : ms_is E (ms_at E o 8) 13 := ms_wt hE ho rfl (by decide)
        have n96 : ms_N E (ms_at E o 8) = 1613 := ms_wl hE ho (by decide) (by decide) rfl
        refine a_iload_n C dX11_soonestOrder_99 rfl 1 rfl rfl ?_
        refine a_callSI C (c_X11_walker l G cy L E hE (ms_sI u64 o 29 0) a1  _ h) kw_6_169 kw_6_170 kw_1_12 kw_6_171 rfl rfl pd_X11_walker ⟨(Nat.le_of_ble_eq_true rfl), (Nat.le_of_ble_eq_true rfl)⟩ dX11_soonestOrder_100 rfl (Nat.le_of_ble_eq_true rfl) ⟨(Nat.le_of_ble_eq_true rfl), (Nat.le_of_ble_eq_true rfl)⟩ rfl (fun r100 u100 h => ?_)
        refine a_iconst (v := 1) C dX11_soonestOrder_103 (by decide) rfl ?_
        refine a_iadd C dX11_soonestOrder_104 rfl ?_
        obtain ⟨q105, h⟩ := h
        refine a_iald C dX11_soonestOrder_105 k96 n96 q105 rfl ?_
        refine a_iload C dX11_soonestOrder_106 4 rfl rfl ?_
        refine a_callVV C (C_X11_tryOrders l G cy L E hE 9 u100 o a1 0 0 (ms_I u100 (ms_at E o 8) (Int32.toNatClampNeg (r100 + 1))) r64 _ ho h) ho rfl (by decide) kw_7_171 kw_7_173 kp_86 kw_1_12 kw_7_174 rfl rfl pd_X11_tryOrders ⟨(Nat.le_of_ble_eq_true rfl), (Nat.le_of_ble_eq_true rfl)⟩ dX11_soonestOrder_108 rfl (Nat.le_of_ble_eq_true rfl) ⟨(Nat.le_of_ble_eq_true rfl), (Nat.le_of_ble_eq_true rfl)⟩ rfl (fun u108 h => ?_)
        refine a_aload_n C dX11_soonestOrder_111 rfl 0 rfl rfl ?_
        refine g_11_26 C hE dX11_soonestOrder_112 ho kw_6_8 rfl ?_
        have k112 : ms_is E (ms_at E o 26) 13 := ms_wt hE ho rfl (by decide)
        have n112 : ms_N E (ms_at E o 26) = 8 := ms_wl hE ho (by decide) (by decide) rfl
        refine a_aload_n C dX11_soonestOrder_115 rfl 0 rfl rfl ?_
        refine g_11_28 C hE dX11_soonestOrder_116 ho kw_6_10 rfl ?_
        have k116 : ms_is E (ms_at E o 28) 13 := ms_wt hE ho rfl (by decide)
        have n116 : ms_N E (ms_at E o 28) = 8 := ms_wl hE ho (by decide) (by decide) rfl
        refine a_iload_n C dX11_soonestOrder_119 rfl 3 rfl rfl ?_
        obtain ⟨q120, h⟩ := h
        refine a_iald C dX11_soonestOrder_120 k116 n116 q120 rfl ?_
        obtain ⟨q121, h⟩ := h
        refine a_iald C dX11_soonestOrder_121 k112 n112 q121 rfl ?_
        exact a_iret C dX11_soonestOrder_122 hr hlocks (Nat.le_of_ble_eq_true rfl) (Nat.le_of_ble_eq_true rfl) h
      · replace h := h.2 hc
        refine a_sub (lv' := []) [] rfl ?_
        exact c_X11_soonestOrder_84 C hr hlocks hE ho  u64  h
  · replace h := h.2 hc
    refine a_sub (lv' := []) [] rfl ?_
    exact c_X11_soonestOrder_38 C hr hlocks hE ho  u32  h
def wp_X11_soonestOrder_26 (E : ms_En) (o : Nat) (a1 : Int32) (a2 : Int32) (a3 : Int32) (post : Int32 → ms_St → Prop)  (u : ms_St) (z0 : Nat) : Prop := wp_X11_soonestOrder_31 E o a1 a2 a3 post u 1 z0
set_option maxHeartbeats 4000000 in
set_option maxRecDepth 100000 in
theorem c_X11_soonestOrder_26 {p : Program} {l : Launch} {e : Env} {s : State} {m : MethodId} {args : Array Value} {below : List Frame} {meth : Method} {c : Code} {G : va_G} {cy : Nat → ClassId} {A : Nat → Prop} {L : Nat → Nat} {E : ms_En} (C : ms_Cx p m c cX11_soonestOrder 5 s args (Cond.code ⟨"CensusWalkModel", "soonestOrder", "(III)I"⟩ prog_13_method_81_code 5 (some .int)) "CensusWalkModel" G cy A) (hr : meth.sig.returnType = (some .int)) (hlocks : meth.locks = false) (hE : ms_WT E) {o : Nat} {a1 : Int32} {a2 : Int32} {a3 : Int32} {post : Int32 → ms_St → Prop}  (ho : ms_is E o 11)  (u : ms_St) (z0 : Nat) (k_z0 : ms_is E z0 11) (h : wp_X11_soonestOrder_26 E o a1 a2 a3 post u z0) : ms_At p l e ({ frames := 57, cells := 0, slots := 0, locals := 3187 } : Room) s m args below meth c 5 G cy A L 0 0 (ms_QI below args s G cy L E A post 0 0) E u 26 [(0, .ref (L o)), (1, .int a1), (2, .int a2), (3, .int a3)] [.ref (L z0)] := by
  unfold wp_X11_soonestOrder_26 at h
  refine a_iconst (v := 1) C dX11_soonestOrder_26 (by decide) rfl ?_
  refine a_goto (tgt := 31) C dX11_soonestOrder_27 (by decide) ?_
  exact c_X11_soonestOrder_31 C hr hlocks hE ho  u 1 z0 k_z0 h
def wp_X11_soonestOrder (E : ms_En) (u : ms_St) (o : Nat) (a1 : Int32) (a2 : Int32) (a3 : Int32) (post : Int32 → ms_St → Prop) : Prop := wp_X11_noWalker E (ms_sI u o 0 0) o a1 (fun r7 u7 => (r7 = 0 → wp_X11_isSet E u7 o a2 (fun r16 u16 => (r16 = 0 → wp_X11_soonestOrder_26 E o a1 a2 a3 post u16 o) ∧ (¬ r16 = 0 → (0 ≤ a3 → wp_X11_soonestOrder_31 E o a1 a2 a3 post u16 0 o) ∧ (¬ 0 ≤ a3 → wp_X11_soonestOrder_26 E o a1 a2 a3 post u16 o)))) ∧ (¬ r7 = 0 → wp_X11_soonestOrder_38 E o a1 a2 a3 post u7))
set_option maxHeartbeats 4000000 in
set_option maxRecDepth 100000 in
theorem c_X11_soonestOrder (l : Launch) (G : va_G) (cy : Nat → ClassId) (L : Nat → Nat) (E : ms_En) (hE : ms_WT E) (u : ms_St) (o : Nat) (a1 : Int32) (a2 : Int32) (a3 : Int32) (ho : ms_is E o 11) (post : Int32 → ms_St → Prop) (h : wp_X11_soonestOrder E u o a1 a2 a3 post) : ms_MetI l ⟨"CensusWalkModel", "soonestOrder", "(III)I"⟩ (Cond.code ⟨"CensusWalkModel", "soonestOrder", "(III)I"⟩ prog_13_method_81_code 5 (some .int) :: lw_g) ({ frames := 57, cells := 0, slots := 0, locals := 3187 } : Room) G cy L E [.ref (L o), .int a1, .int a2, .int a3] u post 0 0 := by
  refine ms_enterI (lv := [(0, .ref (L o)), (1, .int a1), (2, .int a2), (3, .int a3)]) (by decide) (Nat.le_of_ble_eq_true rfl) rfl ?_
  intro p e s m args below meth c A C hr hlocks
  unfold wp_X11_soonestOrder at h
  refine a_aload_n C dX11_soonestOrder_0 rfl 0 rfl rfl ?_
  refine a_iconst (v := 0) C dX11_soonestOrder_1 (by decide) rfl ?_
  refine s_11_0 C dX11_soonestOrder_2 ho kw_5_222 rfl ?_
  refine a_aload_n C dX11_soonestOrder_5 rfl 0 rfl rfl ?_
  refine a_iload_n C dX11_soonestOrder_6 rfl 1 rfl rfl ?_
  refine a_callVI C (c_X11_noWalker l G cy L E hE (ms_sI u o 0 0) o a1 ho _ h) ho rfl (by decide) kw_7_72 kw_7_74 kp_72 kw_1_12 kw_7_75 rfl rfl pd_X11_noWalker ⟨(Nat.le_of_ble_eq_true rfl), (Nat.le_of_ble_eq_true rfl)⟩ dX11_soonestOrder_7 rfl (Nat.le_of_ble_eq_true rfl) ⟨(Nat.le_of_ble_eq_true rfl), (Nat.le_of_ble_eq_true rfl)⟩ rfl (fun r7 u7 h => ?_)
  refine a_if_ne (tgt := 38) C dX11_soonestOrder_10 (by decide) rfl (fun hc => ?_) (fun hc => ?_)
  · replace h := h.2 hc
    refine a_sub (lv' := []) [] rfl ?_
    exact c_X11_soonestOrder_38 C hr hlocks hE ho  u7  h
  · replace h := h.1 hc
    refine a_aload_n C dX11_soonestOrder_13 rfl 0 rfl rfl ?_
    refine a_aload_n C dX11_soonestOrder_14 rfl 0 rfl rfl ?_
    refine a_iload_n C dX11_soonestOrder_15 rfl 2 rfl rfl ?_
    refine a_callVI C (c_X11_isSet l G cy L E hE u7 o a2 ho _ h) ho rfl (by decide) kw_7_140 kw_7_142 kp_80 kw_1_12 kw_7_143 rfl rfl pd_X11_isSet ⟨(Nat.le_of_ble_eq_true rfl), (Nat.le_of_ble_eq_true rfl)⟩ dX11_soonestOrder_16 rfl (Nat.le_of_ble_eq_true rfl) ⟨(Nat.le_of_ble_eq_true rfl), (Nat.le_of_ble_eq_true rfl)⟩ rfl (fun r16 u16 h => ?_)
    refine a_if_eq (tgt := 26) C dX11_soonestOrder_19 (by decide) rfl (fun hc => ?_) (fun hc => ?_)
    · replace h := h.1 hc
      exact c_X11_soonestOrder_26 C hr hlocks hE ho  u16 o ho h
    · replace h := h.2 hc
      refine a_iload_n C dX11_soonestOrder_22 rfl 3 rfl rfl ?_
      refine a_if_ge (tgt := 30) C dX11_soonestOrder_23 (by decide) rfl (fun hc => ?_) (fun hc => ?_)
      · replace h := h.1 hc
        refine a_iconst (v := 0) C dX11_soonestOrder_30 (by decide) rfl ?_
        exact c_X11_soonestOrder_31 C hr hlocks hE ho  u16 0 o ho h
      · replace h := h.2 hc
        exact c_X11_soonestOrder_26 C hr hlocks hE ho  u16 o ho h
