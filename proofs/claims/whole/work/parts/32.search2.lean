/-! CensusWalk$Search.divide(LCensusWalk$Town;LCensusWalk$Routes;I)V -/
theorem pd_X2_divide : (⟨"CensusWalk$Search", "divide", "(LCensusWalk$Town;LCensusWalk$Routes;I)V"⟩ : MethodName).cls = "CensusWalk$Search" ∧ (⟨"CensusWalk$Search", "divide", "(LCensusWalk$Town;LCensusWalk$Routes;I)V"⟩ : MethodName).cls ≠ "java/lang/invoke/MethodHandle" ∧ (⟨"CensusWalk$Search", "divide", "(LCensusWalk$Town;LCensusWalk$Routes;I)V"⟩ : MethodName).cls ≠ "java/lang/invoke/VarHandle" ∧ (parseMethodDescriptor (⟨"CensusWalk$Search", "divide", "(LCensusWalk$Town;LCensusWalk$Routes;I)V"⟩ : MethodName).desc).map (fun d => d.parameters.length) = some 3 := by decide +kernel
def wp_X2_divide_45 (E : ms_En) (o : Nat) (a1 : Nat) (a2 : Nat) (a3 : Int32) (post : ms_St → Prop) (k21 : ms_St → Int32 → Prop) : Nat → ms_St → Int32 → Int32 → Prop
  | 0 => fun _ _ _ => False
  | n + 1 => fun u x4 x5 => ((1 <<< ((ms_I u o 0) &&& 31)) ≤ x5 → vp_in x4 3 ∧ (k21 (ms_sI u (ms_at E o 13) (Int32.toNatClampNeg x4) 0) (x4 + 1))) ∧ (¬ (1 <<< ((ms_I u o 0) &&& 31)) ≤ x5 → wp_X2_earliestEnd E u o x5 (fun r72 u72 => vp_in ((x4 * 256) + x5) 768 ∧ (wp_X2_divide_45 E o a1 a2 a3 post k21 n (ms_sI u72 (ms_at E o 12) (Int32.toNatClampNeg ((x4 * 256) + x5)) r72) x4 (x5 + 1))))
set_option maxHeartbeats 4000000 in
set_option maxRecDepth 100000 in
theorem c_X2_divide_45 {p : Program} {l : Launch} {e : Env} {s : State} {m : MethodId} {args : Array Value} {below : List Frame} {meth : Method} {c : Code} {G : va_G} {cy : Nat → ClassId} {A : Nat → Prop} {L : Nat → Nat} {E : ms_En} (C : ms_Cx p m c cX2_divide 6 s args (Cond.code ⟨"CensusWalk$Search", "divide", "(LCensusWalk$Town;LCensusWalk$Routes;I)V"⟩ prog_4_method_4_code 6 none) "CensusWalk$Search" G cy A) (hr : meth.sig.returnType = none) (hlocks : meth.locks = false) (hE : ms_WT E) {o : Nat} {a1 : Nat} {a2 : Nat} {a3 : Int32} {post : ms_St → Prop} {k21 : ms_St → Int32 → Prop} (ho : ms_is E o 2) (ha1 : ms_is E a1 7) (ha2 : ms_is E a2 1) (hk21 : ∀ (u : ms_St) (x4 : Int32), k21 u x4 → ms_At p l e ({ frames := 57, cells := 0, slots := 0, locals := 3182 } : Room) s m args below meth c 6 G cy A L 0 0 (ms_QV below args s G cy L E A post 0 0) E u 21 [(0, .ref (L o)), (1, .ref (L a1)), (2, .ref (L a2)), (4, .int x4)] []) : ∀ (n : Nat) (u : ms_St) (x4 : Int32) (x5 : Int32), wp_X2_divide_45 E o a1 a2 a3 post k21 n u x4 x5 → ms_At p l e ({ frames := 57, cells := 0, slots := 0, locals := 3182 } : Room) s m args below meth c 6 G cy A L 0 0 (ms_QV below args s G cy L E A post 0 0) E u 45 [(0, .ref (L o)), (1, .ref (L a1)), (2, .ref (L a2)), (4, .int x4), (5, .int x5)] [] := by
  intro n
  induction n with
  | zero =>
    intro u x4 x5  h
    exact absurd h id
  | succ n ih =>
    intro u x4 x5  h
    unfold wp_X2_divide_45 at h
    refine a_iload C dX2_divide_45 4 rfl rfl ?_
    refine a_iconst (v := 1) C dX2_divide_47 (by decide) rfl ?_
    refine a_aload_n C dX2_divide_48 rfl 0 rfl rfl ?_
    refine g_2_0 C dX2_divide_49 ho kw_2_98 rfl ?_
    refine a_ishl C dX2_divide_52 rfl ?_
    refine a_icmp_ge (tgt := 82) C dX2_divide_53 (by decide) rfl (fun hc => ?_) (fun hc => ?_)
    · replace h := h.1 hc
      refine a_aload_n C dX2_divide_82 rfl 0 rfl rfl ?_
      refine g_2_13 C hE dX2_divide_83 ho kw_2_114 rfl ?_
      have k83 : ms_is E (ms_at E o 13) 13 := ms_wt hE ho rfl (by decide)
      have n83 : ms_N E (ms_at E o 13) = 3 := ms_wl hE ho (by decide) (by decide) rfl
      refine a_iload C dX2_divide_86 3 rfl rfl ?_
      refine a_iconst (v := 0) C dX2_divide_88 (by decide) rfl ?_
      obtain ⟨q89, h⟩ := h
      refine a_iast C dX2_divide_89 k83 n83 q89 rfl ?_
      refine a_iinc (lv' := [(0, .ref (L o)), (1, .ref (L a1)), (2, .ref (L a2)), (4, .int (x4 + 1)), (5, .int x5)]) (v := (x4 + 1)) C dX2_divide_90 3 rfl (congrArg (fun z => x4 + z) (by decide)) (by decide) [1, 2, 3, 0, 4] rfl rfl ?_
      refine a_goto (tgt := 21) C dX2_divide_93 (by decide) ?_
      refine a_sub (lv' := [(0, .ref (L o)), (1, .ref (L a1)), (2, .ref (L a2)), (4, .int (x4 + 1))]) [0, 1, 2, 3] rfl ?_
      exact hk21 (ms_sI u (ms_at E o 13) (Int32.toNatClampNeg x4) 0) (x4 + 1)  h
    · replace h := h.2 hc
      refine a_aload_n C dX2_divide_56 rfl 0 rfl rfl ?_
      refine g_2_12 C hE dX2_divide_57 ho kw_2_113 rfl ?_
      have k57 : ms_is E (ms_at E o 12) 13 := ms_wt hE ho rfl (by decide)
      have n57 : ms_N E (ms_at E o 12) = 768 := ms_wl hE ho (by decide) (by decide) rfl
      refine a_iload C dX2_divide_60 3 rfl rfl ?_
      refine a_sipush (v := 256) C dX2_divide_62 (by decide) rfl ?_
      refine a_imul C dX2_divide_65 rfl ?_
      refine a_iload C dX2_divide_66 4 rfl rfl ?_
      refine a_iadd C dX2_divide_68 rfl ?_
      refine a_aload_n C dX2_divide_69 rfl 0 rfl rfl ?_
      refine a_iload C dX2_divide_70 4 rfl rfl ?_
      refine a_callVI C (c_X2_earliestEnd l G cy L E hE u o x5 ho _ h) ho rfl (by decide) kw_5_93 kw_5_95 kp_35 kw_1_11 kw_5_96 rfl rfl pd_X2_earliestEnd ⟨(Nat.le_of_ble_eq_true rfl), (Nat.le_of_ble_eq_true rfl)⟩ dX2_divide_72 rfl (Nat.le_of_ble_eq_true rfl) ⟨(Nat.le_of_ble_eq_true rfl), (Nat.le_of_ble_eq_true rfl)⟩ rfl (fun r72 u72 h => ?_)
      obtain ⟨q75, h⟩ := h
      refine a_iast C dX2_divide_75 k57 n57 q75 rfl ?_
      refine a_iinc (lv' := [(0, .ref (L o)), (1, .ref (L a1)), (2, .ref (L a2)), (4, .int x4), (5, .int (x5 + 1))]) (v := (x5 + 1)) C dX2_divide_76 4 rfl (congrArg (fun z => x5 + z) (by decide)) (by decide) [1, 2, 3, 4, 0] rfl rfl ?_
      refine a_goto (tgt := 45) C dX2_divide_79 (by decide) ?_
      exact ih (ms_sI u72 (ms_at E o 12) (Int32.toNatClampNeg ((x4 * 256) + x5)) r72) x4 (x5 + 1)  h
def wp_X2_divide_21 (E : ms_En) (o : Nat) (a1 : Nat) (a2 : Nat) (a3 : Int32) (post : ms_St → Prop)  : Nat → ms_St → Int32 → Prop
  | 0 => fun _ _ => False
  | n + 1 => fun u x4 => ((ms_I u o 15) ≤ x4 → WP_X2_giveFrom E 9 (ms_sI u o 2 (-1)) o 0 (fun u103 => post u103)) ∧ (¬ (ms_I u o 15) ≤ x4 → wp_X2_beginAt E u o a1 a2 x4 (fun u35 => wp_X2_findEarly E u35 o (fun u39 => ∃ n45, wp_X2_divide_45 E o a1 a2 a3 post (wp_X2_divide_21 E o a1 a2 a3 post n) n45 u39 x4 0)))
set_option maxHeartbeats 4000000 in
set_option maxRecDepth 100000 in
theorem c_X2_divide_21 {p : Program} {l : Launch} {e : Env} {s : State} {m : MethodId} {args : Array Value} {below : List Frame} {meth : Method} {c : Code} {G : va_G} {cy : Nat → ClassId} {A : Nat → Prop} {L : Nat → Nat} {E : ms_En} (C : ms_Cx p m c cX2_divide 6 s args (Cond.code ⟨"CensusWalk$Search", "divide", "(LCensusWalk$Town;LCensusWalk$Routes;I)V"⟩ prog_4_method_4_code 6 none) "CensusWalk$Search" G cy A) (hr : meth.sig.returnType = none) (hlocks : meth.locks = false) (hE : ms_WT E) {o : Nat} {a1 : Nat} {a2 : Nat} {a3 : Int32} {post : ms_St → Prop}  (ho : ms_is E o 2) (ha1 : ms_is E a1 7) (ha2 : ms_is E a2 1)  : ∀ (n : Nat) (u : ms_St) (x4 : Int32), wp_X2_divide_21 E o a1 a2 a3 post n u x4 → ms_At p l e ({ frames := 57, cells := 0, slots := 0, locals := 3182 } : Room) s m args below meth c 6 G cy A L 0 0 (ms_QV below args s G cy L E A post 0 0) E u 21 [(0, .ref (L o)), (1, .ref (L a1)), (2, .ref (L a2)), (4, .int x4)] [] := by
  intro n
  induction n with
  | zero =>
    intro u x4  h
    exact absurd h id
  | succ n ih =>
    intro u x4  h
    unfold wp_X2_divide_21 at h
    refine a_iload C dX2_divide_21 3 rfl rfl ?_
    refine a_aload_n C dX2_divide_23 rfl 0 rfl rfl ?_
    refine g_2_15 C dX2_divide_24 ho kw_2_116 rfl ?_
    refine a_icmp_ge (tgt := 96) C dX2_divide_27 (by decide) rfl (fun hc => ?_) (fun hc => ?_)
    · replace h := h.1 hc
      refine a_aload_n C dX2_divide_96 rfl 0 rfl rfl ?_
      refine a_iconst (v := (-1)) C dX2_divide_97 (by decide) rfl ?_
      refine s_2_2 C dX2_divide_98 ho kw_2_102 rfl ?_
      refine a_aload_n C dX2_divide_101 rfl 0 rfl rfl ?_
      refine a_iconst (v := 0) C dX2_divide_102 (by decide) rfl ?_
      refine a_callVV C (C_X2_giveFrom l G cy L E hE 9 (ms_sI u o 2 (-1)) o 0 _ ho h) ho rfl (by decide) kw_5_140 kw_5_142 kp_41 kw_1_11 kw_5_143 rfl rfl pd_X2_giveFrom ⟨(Nat.le_of_ble_eq_true rfl), (Nat.le_of_ble_eq_true rfl)⟩ dX2_divide_103 rfl (Nat.le_of_ble_eq_true rfl) ⟨(Nat.le_of_ble_eq_true rfl), (Nat.le_of_ble_eq_true rfl)⟩ rfl (fun u103 h => ?_)
      exact a_vret C dX2_divide_106 hr hlocks (Nat.le_of_ble_eq_true rfl) (Nat.le_of_ble_eq_true rfl) h
    · replace h := h.2 hc
      refine a_aload_n C dX2_divide_30 rfl 0 rfl rfl ?_
      refine a_aload_n C dX2_divide_31 rfl 1 rfl rfl ?_
      refine a_aload_n C dX2_divide_32 rfl 2 rfl rfl ?_
      refine a_iload C dX2_divide_33 3 rfl rfl ?_
      refine a_callVV C (c_X2_beginAt l G cy L E hE u o a1 a2 x4 ho ha1 ha2 _ h) ho rfl (by decide) kw_5_70 kw_5_72 kp_31 kw_1_11 kw_5_73 rfl rfl pd_X2_beginAt ⟨(Nat.le_of_ble_eq_true rfl), (Nat.le_of_ble_eq_true rfl)⟩ dX2_divide_35 rfl (Nat.le_of_ble_eq_true rfl) ⟨(Nat.le_of_ble_eq_true rfl), (Nat.le_of_ble_eq_true rfl)⟩ rfl (fun u35 h => ?_)
      refine a_aload_n C dX2_divide_38 rfl 0 rfl rfl ?_
      refine a_callVV C (c_X2_findEarly l G cy L E hE u35 o ho _ h) ho rfl (by decide) kw_5_76 kw_5_78 kp_32 kw_1_11 kw_5_79 rfl rfl pd_X2_findEarly ⟨(Nat.le_of_ble_eq_true rfl), (Nat.le_of_ble_eq_true rfl)⟩ dX2_divide_39 rfl (Nat.le_of_ble_eq_true rfl) ⟨(Nat.le_of_ble_eq_true rfl), (Nat.le_of_ble_eq_true rfl)⟩ rfl (fun u39 h => ?_)
      refine a_iconst (v := 0) C dX2_divide_42 (by decide) rfl ?_
      refine a_istore (lv' := [(0, .ref (L o)), (1, .ref (L a1)), (2, .ref (L a2)), (4, .int x4), (5, .int 0)]) C dX2_divide_43 (by decide) [1, 2, 3, 4, 0] rfl rfl ?_
      obtain ⟨n9, h⟩ := h
      exact c_X2_divide_45 C hr hlocks hE ho ha1 ha2 ih n9 u39 x4 0  h
def wp_X2_divide (E : ms_En) (u : ms_St) (o : Nat) (a1 : Nat) (a2 : Nat) (a3 : Int32) (post : ms_St → Prop) : Prop := wp_X2_choose E u o a1 a2 a3 (fun u4 => ∃ n21, wp_X2_divide_21 E o a1 a2 a3 post n21 (ms_sI u4 o 15 (ms_I u4 (ms_at E a1 5) 0)) 0)
set_option maxHeartbeats 4000000 in
set_option maxRecDepth 100000 in
theorem c_X2_divide (l : Launch) (G : va_G) (cy : Nat → ClassId) (L : Nat → Nat) (E : ms_En) (hE : ms_WT E) (u : ms_St) (o : Nat) (a1 : Nat) (a2 : Nat) (a3 : Int32) (ho : ms_is E o 2) (ha1 : ms_is E a1 7) (ha2 : ms_is E a2 1) (post : ms_St → Prop) (h : wp_X2_divide E u o a1 a2 a3 post) : ms_MetV l ⟨"CensusWalk$Search", "divide", "(LCensusWalk$Town;LCensusWalk$Routes;I)V"⟩ (Cond.code ⟨"CensusWalk$Search", "divide", "(LCensusWalk$Town;LCensusWalk$Routes;I)V"⟩ prog_4_method_4_code 6 none :: lw_g) ({ frames := 57, cells := 0, slots := 0, locals := 3182 } : Room) G cy L E [.ref (L o), .ref (L a1), .ref (L a2), .int a3] u post 0 0 := by
  refine ms_enterV (lv := [(0, .ref (L o)), (1, .ref (L a1)), (2, .ref (L a2)), (3, .int a3)]) (by decide) (Nat.le_of_ble_eq_true rfl) rfl ?_
  intro p e s m args below meth c A C hr hlocks
  unfold wp_X2_divide at h
  refine a_aload_n C dX2_divide_0 rfl 0 rfl rfl ?_
  refine a_aload_n C dX2_divide_1 rfl 1 rfl rfl ?_
  refine a_aload_n C dX2_divide_2 rfl 2 rfl rfl ?_
  refine a_iload_n C dX2_divide_3 rfl 3 rfl rfl ?_
  refine a_callVV C (c_X2_choose l G cy L E hE u o a1 a2 a3 ho ha1 ha2 _ h) ho rfl (by decide) kw_5_63 kw_5_65 kp_30 kw_1_11 kw_5_66 rfl rfl pd_X2_choose ⟨(Nat.le_of_ble_eq_true rfl), (Nat.le_of_ble_eq_true rfl)⟩ dX2_divide_4 rfl (Nat.le_of_ble_eq_true rfl) ⟨(Nat.le_of_ble_eq_true rfl), (Nat.le_of_ble_eq_true rfl)⟩ rfl (fun u4 h => ?_)
  refine a_aload_n C dX2_divide_7 rfl 0 rfl rfl ?_
  refine a_aload_n C dX2_divide_8 rfl 1 rfl rfl ?_
  refine g_7_5 C hE dX2_divide_9 ha1 kw_1_187 rfl ?_
  have k9 : ms_is E (ms_at E a1 5) 9 := ms_wt hE ha1 rfl (by decide)
  refine g_9_0 C dX2_divide_12 k9 kw_1_140 rfl ?_
  refine s_2_15 C dX2_divide_15 ho kw_2_116 rfl ?_
  refine a_iconst (v := 0) C dX2_divide_18 (by decide) rfl ?_
  refine a_istore (lv' := [(0, .ref (L o)), (1, .ref (L a1)), (2, .ref (L a2)), (3, .int a3), (4, .int 0)]) C dX2_divide_19 (by decide) [1, 2, 3, 4, 0] rfl rfl ?_
  refine a_sub (lv' := [(0, .ref (L o)), (1, .ref (L a1)), (2, .ref (L a2)), (4, .int 0)]) [0, 1, 2, 4] rfl ?_
  obtain ⟨n9, h⟩ := h
  exact c_X2_divide_21 C hr hlocks hE ho ha1 ha2  n9 (ms_sI u4 o 15 (ms_I u4 (ms_at E a1 5) 0)) 0  h
