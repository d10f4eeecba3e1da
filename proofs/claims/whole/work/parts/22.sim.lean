/-! CensusWalk$Simulation.lookAhead(LCensusWalk$Town;LCensusWalk$Routes;I)V -/
theorem pd_X4_lookAhead : (⟨"CensusWalk$Simulation", "lookAhead", "(LCensusWalk$Town;LCensusWalk$Routes;I)V"⟩ : MethodName).cls = "CensusWalk$Simulation" ∧ (⟨"CensusWalk$Simulation", "lookAhead", "(LCensusWalk$Town;LCensusWalk$Routes;I)V"⟩ : MethodName).cls ≠ "java/lang/invoke/MethodHandle" ∧ (⟨"CensusWalk$Simulation", "lookAhead", "(LCensusWalk$Town;LCensusWalk$Routes;I)V"⟩ : MethodName).cls ≠ "java/lang/invoke/VarHandle" ∧ (parseMethodDescriptor (⟨"CensusWalk$Simulation", "lookAhead", "(LCensusWalk$Town;LCensusWalk$Routes;I)V"⟩ : MethodName).desc).map (fun d => d.parameters.length) = some 3 := by decide +kernel
def wp_X4_lookAhead_86 (E : ms_En) (o : Nat) (a1 : Nat) (a2 : Nat) (a3 : Int32) (post : ms_St → Prop)  (u : ms_St)  : Prop := post u
set_option maxHeartbeats 4000000 in
set_option maxRecDepth 100000 in
theorem c_X4_lookAhead_86 {p : Program} {l : Launch} {e : Env} {s : State} {m : MethodId} {args : Array Value} {below : List Frame} {meth : Method} {c : Code} {G : va_G} {cy : Nat → ClassId} {A : Nat → Prop} {L : Nat → Nat} {E : ms_En} (C : ms_Cx p m c cX4_lookAhead 5 s args (Cond.code ⟨"CensusWalk$Simulation", "lookAhead", "(LCensusWalk$Town;LCensusWalk$Routes;I)V"⟩ prog_6_method_3_code 5 none) "CensusWalk$Simulation" G cy A) (hr : meth.sig.returnType = none) (hlocks : meth.locks = false) (hE : ms_WT E) {o : Nat} {a1 : Nat} {a2 : Nat} {a3 : Int32} {post : ms_St → Prop}  (ho : ms_is E o 4) (ha1 : ms_is E a1 7) (ha2 : ms_is E a2 1)  (u : ms_St)   (h : wp_X4_lookAhead_86 E o a1 a2 a3 post u ) : ms_At p l e ({ frames := 4, cells := 0, slots := 0, locals := 97 } : Room) s m args below meth c 5 G cy A L 0 0 (ms_QV below args s G cy L E A post 0 0) E u 86 [] [] := by
  unfold wp_X4_lookAhead_86 at h
  exact a_vret C dX4_lookAhead_86 hr hlocks (Nat.le_of_ble_eq_true rfl) (Nat.le_of_ble_eq_true rfl) h
def wp_X4_lookAhead (E : ms_En) (u : ms_St) (o : Nat) (a1 : Nat) (a2 : Nat) (a3 : Int32) (post : ms_St → Prop) : Prop := vp_in a3 3 ∧ (wp_X9_plannedHouse E u (ms_at E a1 5) a3 (ms_I u (ms_at E o 6) (Int32.toNatClampNeg a3)) (fun r11 u11 => (r11 = (-1) → vp_in a3 3 ∧ (wp_X4_lookAhead_86 E o a1 a2 a3 post (ms_sI u11 (ms_at E o 8) (Int32.toNatClampNeg a3) (-1)))) ∧ (¬ r11 = (-1) → vp_in a3 3 ∧ (((ms_I u11 (ms_at E o 7) (Int32.toNatClampNeg a3)) = (-1) → vp_in a3 3 ∧ (wp_X1_fromCrossing E u11 a2 a1 (ms_I u11 (ms_at E (ms_at E a1 5) 1) (Int32.toNatClampNeg a3)) r11 (fun r60 u60 => vp_in a3 3 ∧ (wp_X4_lookAhead_86 E o a1 a2 a3 post (ms_sI u60 (ms_at E o 8) (Int32.toNatClampNeg a3) r60))))) ∧ (¬ (ms_I u11 (ms_at E o 7) (Int32.toNatClampNeg a3)) = (-1) → vp_in a3 3 ∧ (wp_X1_betweenHouses E u11 a2 a1 (ms_I u11 (ms_at E o 7) (Int32.toNatClampNeg a3)) r11 (fun r82 u82 => vp_in a3 3 ∧ (wp_X4_lookAhead_86 E o a1 a2 a3 post (ms_sI u82 (ms_at E o 8) (Int32.toNatClampNeg a3) r82)))))))))
set_option maxHeartbeats 4000000 in
set_option maxRecDepth 100000 in
theorem c_X4_lookAhead (l : Launch) (G : va_G) (cy : Nat → ClassId) (L : Nat → Nat) (E : ms_En) (hE : ms_WT E) (u : ms_St) (o : Nat) (a1 : Nat) (a2 : Nat) (a3 : Int32) (ho : ms_is E o 4) (ha1 : ms_is E a1 7) (ha2 : ms_is E a2 1) (post : ms_St → Prop) (h : wp_X4_lookAhead E u o a1 a2 a3 post) : ms_MetV l ⟨"CensusWalk$Simulation", "lookAhead", "(LCensusWalk$Town;LCensusWalk$Routes;I)V"⟩ (Cond.code ⟨"CensusWalk$Simulation", "lookAhead", "(LCensusWalk$Town;LCensusWalk$Routes;I)V"⟩ prog_6_method_3_code 5 none :: lw_g) ({ frames := 4, cells := 0, slots := 0, locals := 97 } : Room) G cy L E [.ref (L o), .ref (L a1), .ref (L a2), .int a3] u post 0 0 := by
  refine ms_enterV (lv := [(0, .ref (L o)), (1, .ref (L a1)), (2, .ref (L a2)), (3, .int a3)]) (by decide) (Nat.le_of_ble_eq_true rfl) rfl ?_
  intro p e s m args below meth c A C hr hlocks
  unfold wp_X4_lookAhead at h
  refine a_aload_n C dX4_lookAhead_0 rfl 1 rfl rfl ?_
  refine g_7_5 C hE dX4_lookAhead_1 ha1 kw_1_186 rfl ?_
  have k1 : ms_is E (ms_at E a1 5) 9 := ms_wt hE ha1 rfl (by decide)
  refine a_iload_n C dX4_lookAhead_4 rfl 3 rfl rfl ?_
  refine a_aload_n C dX4_lookAhead_5 rfl 0 rfl rfl ?_
  refine g_4_6 C hE dX4_lookAhead_6 ho kw_2_70 rfl ?_
  have k6 : ms_is E (ms_at E o 6) 13 := ms_wt hE ho rfl (by decide)
  have n6 : ms_N E (ms_at E o 6) = 3 := ms_wl hE ho (by decide) (by decide) rfl
  refine a_iload_n C dX4_lookAhead_9 rfl 3 rfl rfl ?_
  obtain ⟨q10, h⟩ := h
  refine a_iald C dX4_lookAhead_10 k6 n6 q10 rfl ?_
  refine a_callVI C (c_X9_plannedHouse l G cy L E hE u (ms_at E a1 5) a3 (ms_I u (ms_at E o 6) (Int32.toNatClampNeg a3)) k1 _ h) k1 rfl (by decide) kw_3_22 kw_3_23 kw_3_24 kw_1_5 kw_3_25 rfl rfl pd_X9_plannedHouse ⟨(Nat.le_of_ble_eq_true rfl), (Nat.le_of_ble_eq_true rfl)⟩ dX4_lookAhead_11 rfl (Nat.le_of_ble_eq_true rfl) ⟨(Nat.le_of_ble_eq_true rfl), (Nat.le_of_ble_eq_true rfl)⟩ rfl (fun r11 u11 h => ?_)
  refine a_istore (lv' := [(0, .ref (L o)), (1, .ref (L a1)), (2, .ref (L a2)), (3, .int a3), (4, .int r11)]) C dX4_lookAhead_14 (by decide) [1, 2, 3, 4, 0] rfl rfl ?_
  refine a_iload C dX4_lookAhead_16 4 rfl rfl ?_
  refine a_iconst (v := (-1)) C dX4_lookAhead_18 (by decide) rfl ?_
  refine a_icmp_ne (tgt := 32) C dX4_lookAhead_19 (by decide) rfl (fun hc => ?_) (fun hc => ?_)
  · replace h := h.2 hc
    refine a_aload_n C dX4_lookAhead_32 rfl 0 rfl rfl ?_
    refine g_4_7 C hE dX4_lookAhead_33 ho kw_2_71 rfl ?_
    have k33 : ms_is E (ms_at E o 7) 13 := ms_wt hE ho rfl (by decide)
    have n33 : ms_N E (ms_at E o 7) = 3 := ms_wl hE ho (by decide) (by decide) rfl
    refine a_iload_n C dX4_lookAhead_36 rfl 3 rfl rfl ?_
    obtain ⟨q37, h⟩ := h
    refine a_iald C dX4_lookAhead_37 k33 n33 q37 rfl ?_
    refine a_iconst (v := (-1)) C dX4_lookAhead_38 (by decide) rfl ?_
    refine a_icmp_ne (tgt := 67) C dX4_lookAhead_39 (by decide) rfl (fun hc => ?_) (fun hc => ?_)
    · replace h := h.2 hc
      refine a_aload_n C dX4_lookAhead_67 rfl 0 rfl rfl ?_
      refine g_4_8 C hE dX4_lookAhead_68 ho kw_2_72 rfl ?_
      have k68 : ms_is E (ms_at E o 8) 13 := ms_wt hE ho rfl (by decide)
      have n68 : ms_N E (ms_at E o 8) = 3 := ms_wl hE ho (by decide) (by decide) rfl
      refine a_iload_n C dX4_lookAhead_71 rfl 3 rfl rfl ?_
      refine a_aload_n C dX4_lookAhead_72 rfl 2 rfl rfl ?_
      refine a_aload_n C dX4_lookAhead_73 rfl 1 rfl rfl ?_
      refine a_aload_n C dX4_lookAhead_74 rfl 0 rfl rfl ?_
      refine g_4_7 C hE dX4_lookAhead_75 ho kw_2_71 rfl ?_
      refine a_iload_n C dX4_lookAhead_78 rfl 3 rfl rfl ?_
      obtain ⟨q79, h⟩ := h
      refine a_iald C dX4_lookAhead_79 k33 n33 q79 rfl ?_
      refine a_iload C dX4_lookAhead_80 4 rfl rfl ?_
      refine a_callVI C (c_X1_betweenHouses l G cy L E hE u11 a2 a1 (ms_I u11 (ms_at E o 7) (Int32.toNatClampNeg a3)) r11 ha2 ha1 _ h) ha2 rfl (by decide) kw_3_49 kw_3_50 kw_3_51 kw_1_9 kw_3_52 rfl rfl pd_X1_betweenHouses ⟨(Nat.le_of_ble_eq_true rfl), (Nat.le_of_ble_eq_true rfl)⟩ dX4_lookAhead_82 rfl (Nat.le_of_ble_eq_true rfl) ⟨(Nat.le_of_ble_eq_true rfl), (Nat.le_of_ble_eq_true rfl)⟩ rfl (fun r82 u82 h => ?_)
      obtain ⟨q85, h⟩ := h
      refine a_iast C dX4_lookAhead_85 k68 n68 q85 rfl ?_
      refine a_sub (lv' := []) [] rfl ?_
      exact c_X4_lookAhead_86 C hr hlocks hE ho ha1 ha2  (ms_sI u82 (ms_at E o 8) (Int32.toNatClampNeg a3) r82)  h
    · replace h := h.1 hc
      refine a_aload_n C dX4_lookAhead_42 rfl 0 rfl rfl ?_
      refine g_4_8 C hE dX4_lookAhead_43 ho kw_2_72 rfl ?_
      have k43 : ms_is E (ms_at E o 8) 13 := ms_wt hE ho rfl (by decide)
      have n43 : ms_N E (ms_at E o 8) = 3 := ms_wl hE ho (by decide) (by decide) rfl
      refine a_iload_n C dX4_lookAhead_46 rfl 3 rfl rfl ?_
      refine a_aload_n C dX4_lookAhead_47 rfl 2 rfl rfl ?_
      refine a_aload_n C dX4_lookAhead_48 rfl 1 rfl rfl ?_
      refine a_aload_n C dX4_lookAhead_49 rfl 1 rfl rfl ?_
      refine g_7_5 C hE dX4_lookAhead_50 ha1 kw_1_186 rfl ?_
      refine g_9_1 C hE dX4_lookAhead_53 k1 kw_1_144 rfl ?_
      have k53 : ms_is E (ms_at E (ms_at E a1 5) 1) 13 := ms_wt hE k1 rfl (by decide)
      have n53 : ms_N E (ms_at E (ms_at E a1 5) 1) = 3 := ms_wl hE k1 (by decide) (by decide) rfl
      refine a_iload_n C dX4_lookAhead_56 rfl 3 rfl rfl ?_
      obtain ⟨q57, h⟩ := h
      refine a_iald C dX4_lookAhead_57 k53 n53 q57 rfl ?_
      refine a_iload C dX4_lookAhead_58 4 rfl rfl ?_
      refine a_callVI C (c_X1_fromCrossing l G cy L E hE u11 a2 a1 (ms_I u11 (ms_at E (ms_at E a1 5) 1) (Int32.toNatClampNeg a3)) r11 ha2 ha1 _ h) ha2 rfl (by decide) kw_3_30 kw_3_31 kw_3_32 kw_1_9 kw_3_33 rfl rfl pd_X1_fromCrossing ⟨(Nat.le_of_ble_eq_true rfl), (Nat.le_of_ble_eq_true rfl)⟩ dX4_lookAhead_60 rfl (Nat.le_of_ble_eq_true rfl) ⟨(Nat.le_of_ble_eq_true rfl), (Nat.le_of_ble_eq_true rfl)⟩ rfl (fun r60 u60 h => ?_)
      obtain ⟨q63, h⟩ := h
      refine a_iast C dX4_lookAhead_63 k43 n43 q63 rfl ?_
      refine a_goto (tgt := 86) C dX4_lookAhead_64 (by decide) ?_
      refine a_sub (lv' := []) [] rfl ?_
      exact c_X4_lookAhead_86 C hr hlocks hE ho ha1 ha2  (ms_sI u60 (ms_at E o 8) (Int32.toNatClampNeg a3) r60)  h
  · replace h := h.1 hc
    refine a_aload_n C dX4_lookAhead_22 rfl 0 rfl rfl ?_
    refine g_4_8 C hE dX4_lookAhead_23 ho kw_2_72 rfl ?_
    have k23 : ms_is E (ms_at E o 8) 13 := ms_wt hE ho rfl (by decide)
    have n23 : ms_N E (ms_at E o 8) = 3 := ms_wl hE ho (by decide) (by decide) rfl
    refine a_iload_n C dX4_lookAhead_26 rfl 3 rfl rfl ?_
    refine a_iconst (v := (-1)) C dX4_lookAhead_27 (by decide) rfl ?_
    obtain ⟨q28, h⟩ := h
    refine a_iast C dX4_lookAhead_28 k23 n23 q28 rfl ?_
    refine a_goto (tgt := 86) C dX4_lookAhead_29 (by decide) ?_
    refine a_sub (lv' := []) [] rfl ?_
    exact c_X4_lookAhead_86 C hr hlocks hE ho ha1 ha2  (ms_sI u11 (ms_at E o 8) (Int32.toNatClampNeg a3) (-1))  h

/-! CensusWalk$Simulation.firstToArrive(LCensusWalk$Walkers;)I -/
theorem pd_X4_firstToArrive : (⟨"CensusWalk$Simulation", "firstToArrive", "(LCensusWalk$Walkers;)I"⟩ : MethodName).cls = "CensusWalk$Simulation" ∧ (⟨"CensusWalk$Simulation", "firstToArrive", "(LCensusWalk$Walkers;)I"⟩ : MethodName).cls ≠ "java/lang/invoke/MethodHandle" ∧ (⟨"CensusWalk$Simulation", "firstToArrive", "(LCensusWalk$Walkers;)I"⟩ : MethodName).cls ≠ "java/lang/invoke/VarHandle" ∧ (parseMethodDescriptor (⟨"CensusWalk$Simulation", "firstToArrive", "(LCensusWalk$Walkers;)I"⟩ : MethodName).desc).map (fun d => d.parameters.length) = some 1 := by decide +kernel
def wp_X4_firstToArrive_71 (E : ms_En) (o : Nat) (a1 : Nat) (post : Int32 → ms_St → Prop) (k7 : ms_St → Int32 → Int32 → Int32 → Prop) (u : ms_St) (x2 : Int32) (x3 : Int32) (x4 : Int32) : Prop := k7 u x2 x3 (x4 + 1)
set_option maxHeartbeats 4000000 in
set_option maxRecDepth 100000 in
theorem c_X4_firstToArrive_71 {p : Program} {l : Launch} {e : Env} {s : State} {m : MethodId} {args : Array Value} {below : List Frame} {meth : Method} {c : Code} {G : va_G} {cy : Nat → ClassId} {A : Nat → Prop} {L : Nat → Nat} {E : ms_En} (C : ms_Cx p m c cX4_firstToArrive 6 s args (Cond.code ⟨"CensusWalk$Simulation", "firstToArrive", "(LCensusWalk$Walkers;)I"⟩ prog_6_method_4_code 6 (some .int)) "CensusWalk$Simulation" G cy A) (hr : meth.sig.returnType = (some .int)) (hlocks : meth.locks = false) (hE : ms_WT E) {o : Nat} {a1 : Nat} {post : Int32 → ms_St → Prop} {k7 : ms_St → Int32 → Int32 → Int32 → Prop} (ho : ms_is E o 4) (ha1 : ms_is E a1 9) (hk7 : ∀ (u : ms_St) (x2 : Int32) (x3 : Int32) (x4 : Int32), k7 u x2 x3 x4 → ms_At p l e ({ frames := 1, cells := 0, slots := 0, locals := 30 } : Room) s m args below meth c 6 G cy A L 0 0 (ms_QI below args s G cy L E A post 0 0) E u 7 [(0, .ref (L o)), (1, .ref (L a1)), (2, .int x2), (3, .int x3), (4, .int x4)] []) (u : ms_St) (x2 : Int32) (x3 : Int32) (x4 : Int32)  (h : wp_X4_firstToArrive_71 E o a1 post k7 u x2 x3 x4) : ms_At p l e ({ frames := 1, cells := 0, slots := 0, locals := 30 } : Room) s m args below meth c 6 G cy A L 0 0 (ms_QI below args s G cy L E A post 0 0) E u 71 [(0, .ref (L o)), (1, .ref (L a1)), (2, .int x2), (3, .int x3), (4, .int x4)] [] := by
  unfold wp_X4_firstToArrive_71 at h
  refine a_iinc (lv' := [(0, .ref (L o)), (1, .ref (L a1)), (2, .int x2), (3, .int x3), (4, .int (x4 + 1))]) (v := (x4 + 1)) C dX4_firstToArrive_71 4 rfl (congrArg (fun z => x4 + z) (by decide)) (by decide) [1, 2, 3, 4, 0] rfl rfl ?_
  refine a_goto (tgt := 7) C dX4_firstToArrive_74 (by decide) ?_
  exact hk7 u x2 x3 (x4 + 1)  h
def wp_X4_firstToArrive_65 (E : ms_En) (o : Nat) (a1 : Nat) (post : Int32 → ms_St → Prop) (k7 : ms_St → Int32 → Int32 → Int32 → Prop) (u : ms_St) (x4 : Int32) (x5 : Int32) : Prop := wp_X4_firstToArrive_71 E o a1 post k7 u x4 x5 x4
set_option maxHeartbeats 4000000 in
set_option maxRecDepth 100000 in
theorem c_X4_firstToArrive_65 {p : Program} {l : Launch} {e : Env} {s : State} {m : MethodId} {args : Array Value} {below : List Frame} {meth : Method} {c : Code} {G : va_G} {cy : Nat → ClassId} {A : Nat → Prop} {L : Nat → Nat} {E : ms_En} (C : ms_Cx p m c cX4_firstToArrive 6 s args (Cond.code ⟨"CensusWalk$Simulation", "firstToArrive", "(LCensusWalk$Walkers;)I"⟩ prog_6_method_4_code 6 (some .int)) "CensusWalk$Simulation" G cy A) (hr : meth.sig.returnType = (some .int)) (hlocks : meth.locks = false) (hE : ms_WT E) {o : Nat} {a1 : Nat} {post : Int32 → ms_St → Prop} {k7 : ms_St → Int32 → Int32 → Int32 → Prop} (ho : ms_is E o 4) (ha1 : ms_is E a1 9) (hk7 : ∀ (u : ms_St) (x2 : Int32) (x3 : Int32) (x4 : Int32), k7 u x2 x3 x4 → ms_At p l e ({ frames := 1, cells := 0, slots := 0, locals := 30 } : Room) s m args below meth c 6 G cy A L 0 0 (ms_QI below args s G cy L E A post 0 0) E u 7 [(0, .ref (L o)), (1, .ref (L a1)), (2, .int x2), (3, .int x3), (4, .int x4)] []) (u : ms_St) (x4 : Int32) (x5 : Int32)  (h : wp_X4_firstToArrive_65 E o a1 post k7 u x4 x5) : ms_At p l e ({ frames := 1, cells := 0, slots := 0, locals := 30 } : Room) s m args below meth c 6 G cy A L 0 0 (ms_QI below args s G cy L E A post 0 0) E u 65 [(0, .ref (L o)), (1, .ref (L a1)), (4, .int x4), (5, .int x5)] [] := by
  unfold wp_X4_firstToArrive_65 at h
  refine a_iload C dX4_firstToArrive_65 2 rfl rfl ?_
  refine a_istore_n (lv' := [(0, .ref (L o)), (1, .ref (L a1)), (2, .int x4), (4, .int x4), (5, .int x5)]) C dX4_firstToArrive_67 rfl (by decide) [1, 2, 0, 3, 4] rfl rfl ?_
  refine a_iload C dX4_firstToArrive_68 4 rfl rfl ?_
  refine a_istore_n (lv' := [(0, .ref (L o)), (1, .ref (L a1)), (2, .int x4), (3, .int x5), (4, .int x4), (5, .int x5)]) C dX4_firstToArrive_70 rfl (by decide) [1, 2, 3, 0, 4, 5] rfl rfl ?_
  refine a_sub (lv' := [(0, .ref (L o)), (1, .ref (L a1)), (2, .int x4), (3, .int x5), (4, .int x4)]) [0, 1, 2, 3, 4] rfl ?_
  exact c_X4_firstToArrive_71 C hr hlocks hE ho ha1 hk7 u x4 x5 x4  h
def wp_X4_firstToArrive_7 (E : ms_En) (o : Nat) (a1 : Nat) (post : Int32 → ms_St → Prop)  : Nat → ms_St → Int32 → Int32 → Int32 → Prop
  | 0 => fun _ _ _ _ => False
  | n + 1 => fun u x2 x3 x4 => ((ms_I u a1 0) ≤ x4 → post x2 u) ∧ (¬ (ms_I u a1 0) ≤ x4 → vp_in x4 3 ∧ (vp_in x4 3 ∧ (((ms_I u (ms_at E a1 3) (Int32.toNatClampNeg x4)) ≤ (ms_I u (ms_at E o 6) (Int32.toNatClampNeg x4)) → wp_X4_firstToArrive_71 E o a1 post (wp_X4_firstToArrive_7 E o a1 post n) u x2 x3 x4) ∧ (¬ (ms_I u (ms_at E a1 3) (Int32.toNatClampNeg x4)) ≤ (ms_I u (ms_at E o 6) (Int32.toNatClampNeg x4)) → vp_in x4 3 ∧ (vp_in x4 3 ∧ (∀ v52 : Int32, v52 = ((ms_I u (ms_at E o 2) (Int32.toNatClampNeg x4)) + (if (ms_I u (ms_at E o 8) (Int32.toNatClampNeg x4)) < 0 then 0 else (ms_I u (ms_at E o 8) (Int32.toNatClampNeg x4)))) → ((x2 = (-1) → wp_X4_firstToArrive_65 E o a1 post (wp_X4_firstToArrive_7 E o a1 post n) u x4 v52) ∧ (¬ x2 = (-1) → (x3 ≤ v52 → wp_X4_firstToArrive_71 E o a1 post (wp_X4_firstToArrive_7 E o a1 post n) u x2 x3 x4) ∧ (¬ x3 ≤ v52 → wp_X4_firstToArrive_65 E o a1 post (wp_X4_firstToArrive_7 E o a1 post n) u x4 v52)))))))))
set_option maxHeartbeats 4000000 in
set_option maxRecDepth 100000 in
theorem c_X4_firstToArrive_7 {p : Program} {l : Launch} {e : Env} {s : State} {m : MethodId} {args : Array Value} {below : List Frame} {meth : Method} {c : Code} {G : va_G} {cy : Nat → ClassId} {A : Nat → Prop} {L : Nat → Nat} {E : ms_En} (C : ms_Cx p m c cX4_firstToArrive 6 s args (Cond.code ⟨"CensusWalk$Simulation", "firstToArrive", "(LCensusWalk$Walkers;)I"⟩ prog_6_method_4_code 6 (some .int)) "CensusWalk$Simulation" G cy A) (hr : meth.sig.returnType = (some .int)) (hlocks : meth.locks = false) (hE : ms_WT E) {o : Nat} {a1 : Nat} {post : Int32 → ms_St → Prop}  (ho : ms_is E o 4) (ha1 : ms_is E a1 9)  : ∀ (n : Nat) (u : ms_St) (x2 : Int32) (x3 : Int32) (x4 : Int32), wp_X4_firstToArrive_7 E o a1 post n u x2 x3 x4 → ms_At p l e ({ frames := 1, cells := 0, slots := 0, locals := 30 } : Room) s m args below meth c 6 G cy A L 0 0 (ms_QI below args s G cy L E A post 0 0) E u 7 [(0, .ref (L o)), (1, .ref (L a1)), (2, .int x2), (3, .int x3), (4, .int x4)] [] := by
  intro n
  induction n with
  | zero =>
    intro u x2 x3 x4  h
    exact absurd h id
  | succ n ih =>
    intro u x2 x3 x4  h
    unfold wp_X4_firstToArrive_7 at h
    refine a_iload C dX4_firstToArrive_7 4 rfl rfl ?_
    refine a_aload_n C dX4_firstToArrive_9 rfl 1 rfl rfl ?_
    refine g_9_0 C dX4_firstToArrive_10 ha1 kw_1_138 rfl ?_
    refine a_icmp_ge (tgt := 77) C dX4_firstToArrive_13 (by decide) rfl (fun hc => ?_) (fun hc => ?_)
    · replace h := h.1 hc
      refine a_iload_n C dX4_firstToArrive_77 rfl 2 rfl rfl ?_
      exact a_iret C dX4_firstToArrive_78 hr hlocks (Nat.le_of_ble_eq_true rfl) (Nat.le_of_ble_eq_true rfl) h
    · replace h := h.2 hc
      refine a_aload_n C dX4_firstToArrive_16 rfl 0 rfl rfl ?_
      refine g_4_6 C hE dX4_firstToArrive_17 ho kw_2_70 rfl ?_
      have k17 : ms_is E (ms_at E o 6) 13 := ms_wt hE ho rfl (by decide)
      have n17 : ms_N E (ms_at E o 6) = 3 := ms_wl hE ho (by decide) (by decide) rfl
      refine a_iload C dX4_firstToArrive_20 4 rfl rfl ?_
      obtain ⟨q22, h⟩ := h
      refine a_iald C dX4_firstToArrive_22 k17 n17 q22 rfl ?_
      refine a_aload_n C dX4_firstToArrive_23 rfl 1 rfl rfl ?_
      refine g_9_3 C hE dX4_firstToArrive_24 ha1 kw_1_150 rfl ?_
      have k24 : ms_is E (ms_at E a1 3) 13 := ms_wt hE ha1 rfl (by decide)
      have n24 : ms_N E (ms_at E a1 3) = 3 := ms_wl hE ha1 (by decide) (by decide) rfl
      refine a_iload C dX4_firstToArrive_27 4 rfl rfl ?_
      obtain ⟨q29, h⟩ := h
      refine a_iald C dX4_firstToArrive_29 k24 n24 q29 rfl ?_
      refine a_icmp_ge (tgt := 71) C dX4_firstToArrive_30 (by decide) rfl (fun hc => ?_) (fun hc => ?_)
      · replace h := h.1 hc
        exact c_X4_firstToArrive_71 C hr hlocks hE ho ha1 ih u x2 x3 x4  h
      · replace h := h.2 hc
        refine a_aload_n C dX4_firstToArrive_33 rfl 0 rfl rfl ?_
        refine g_4_2 C hE dX4_firstToArrive_34 ho kw_2_63 rfl ?_
        have k34 : ms_is E (ms_at E o 2) 13 := ms_wt hE ho rfl (by decide)
        have n34 : ms_N E (ms_at E o 2) = 3 := ms_wl hE ho (by decide) (by decide) rfl
        refine a_iload C dX4_firstToArrive_37 4 rfl rfl ?_
        obtain ⟨q39, h⟩ := h
        refine a_iald C dX4_firstToArrive_39 k34 n34 q39 rfl ?_
        refine a_aload_n C dX4_firstToArrive_40 rfl 0 rfl rfl ?_
        refine g_4_8 C hE dX4_firstToArrive_41 ho kw_2_72 rfl ?_
        have k41 : ms_is E (ms_at E o 8) 13 := ms_wt hE ho rfl (by decide)
        have n41 : ms_N E (ms_at E o 8) = 3 := ms_wl hE ho (by decide) (by decide) rfl
        refine a_iload C dX4_firstToArrive_44 4 rfl rfl ?_
        obtain ⟨q46, h⟩ := h
        refine a_iald C dX4_firstToArrive_46 k41 n41 q46 rfl ?_
        refine a_iconst (v := 0) C dX4_firstToArrive_47 (by decide) rfl ?_
        refine a_mmax C dX4_firstToArrive_48 kw_3_60 kw_3_61 kw_1_17 kw_3_62 (Nat.le_of_ble_eq_true rfl) (Nat.le_of_ble_eq_true rfl) (Nat.le_of_ble_eq_true rfl) (Nat.le_of_ble_eq_true rfl) rfl ?_
        refine a_iadd C dX4_firstToArrive_51 rfl ?_
        refine a_nmI (fun v52 e52 => ?_)
        replace h := h v52 e52
        refine a_istore (lv' := [(0, .ref (L o)), (1, .ref (L a1)), (2, .int x2), (3, .int x3), (4, .int x4), (5, .int v52)]) C dX4_firstToArrive_52 (by decide) [1, 2, 3, 4, 5, 0] rfl rfl ?_
        refine a_iload_n C dX4_firstToArrive_54 rfl 2 rfl rfl ?_
        refine a_iconst (v := (-1)) C dX4_firstToArrive_55 (by decide) rfl ?_
        refine a_icmp_eq (tgt := 65) C dX4_firstToArrive_56 (by decide) rfl (fun hc => ?_) (fun hc => ?_)
        · replace h := h.1 hc
          refine a_sub (lv' := [(0, .ref (L o)), (1, .ref (L a1)), (4, .int x4), (5, .int v52)]) [0, 1, 4, 5] rfl ?_
          exact c_X4_firstToArrive_65 C hr hlocks hE ho ha1 ih u x4 v52  h
        · replace h := h.2 hc
          refine a_iload C dX4_firstToArrive_59 5 rfl rfl ?_
          refine a_iload_n C dX4_firstToArrive_61 rfl 3 rfl rfl ?_
          refine a_icmp_ge (tgt := 71) C dX4_firstToArrive_62 (by decide) rfl (fun hc => ?_) (fun hc => ?_)
          · replace h := h.1 hc
            refine a_sub (lv' := [(0, .ref (L o)), (1, .ref (L a1)), (2, .int x2), (3, .int x3), (4, .int x4)]) [0, 1, 2, 3, 4] rfl ?_
            exact c_X4_firstToArrive_71 C hr hlocks hE ho ha1 ih u x2 x3 x4  h
          · replace h := h.2 hc
            refine a_sub (lv' := [(0, .ref (L o)), (1, .ref (L a1)), (4, .int x4), (5, .int v52)]) [0, 1, 4, 5] rfl ?_
            exact c_X4_firstToArrive_65 C hr hlocks hE ho ha1 ih u x4 v52  h
def wp_X4_firstToArrive (E : ms_En) (u : ms_St) (o : Nat) (a1 : Nat) (post : Int32 → ms_St → Prop) : Prop := ∃ n7, wp_X4_firstToArrive_7 E o a1 post n7 u (-1) 0 0
set_option maxHeartbeats 4000000 in
set_option maxRecDepth 100000 in
theorem c_X4_firstToArrive (l : Launch) (G : va_G) (cy : Nat → ClassId) (L : Nat → Nat) (E : ms_En) (hE : ms_WT E) (u : ms_St) (o : Nat) (a1 : Nat) (ho : ms_is E o 4) (ha1 : ms_is E a1 9) (post : Int32 → ms_St → Prop) (h : wp_X4_firstToArrive E u o a1 post) : ms_MetI l ⟨"CensusWalk$Simulation", "firstToArrive", "(LCensusWalk$Walkers;)I"⟩ (Cond.code ⟨"CensusWalk$Simulation", "firstToArrive", "(LCensusWalk$Walkers;)I"⟩ prog_6_method_4_code 6 (some .int) :: lw_g) ({ frames := 1, cells := 0, slots := 0, locals := 30 } : Room) G cy L E [.ref (L o), .ref (L a1)] u post 0 0 := by
  refine ms_enterI (lv := [(0, .ref (L o)), (1, .ref (L a1))]) (by decide) (Nat.le_of_ble_eq_true rfl) rfl ?_
  intro p e s m args below meth c A C hr hlocks
  unfold wp_X4_firstToArrive at h
  refine a_iconst (v := (-1)) C dX4_firstToArrive_0 (by decide) rfl ?_
  refine a_istore_n (lv' := [(0, .ref (L o)), (1, .ref (L a1)), (2, .int (-1))]) C dX4_firstToArrive_1 rfl (by decide) [1, 2, 0] rfl rfl ?_
  refine a_iconst (v := 0) C dX4_firstToArrive_2 (by decide) rfl ?_
  refine a_istore_n (lv' := [(0, .ref (L o)), (1, .ref (L a1)), (2, .int (-1)), (3, .int 0)]) C dX4_firstToArrive_3 rfl (by decide) [1, 2, 3, 0] rfl rfl ?_
  refine a_iconst (v := 0) C dX4_firstToArrive_4 (by decide) rfl ?_
  refine a_istore (lv' := [(0, .ref (L o)), (1, .ref (L a1)), (2, .int (-1)), (3, .int 0), (4, .int 0)]) C dX4_firstToArrive_5 (by decide) [1, 2, 3, 4, 0] rfl rfl ?_
  obtain ⟨n9, h⟩ := h
  exact c_X4_firstToArrive_7 C hr hlocks hE ho ha1  n9 u (-1) 0 0  h

/-! CensusWalk$Simulation.callOn(LCensusWalk$Town;II)I -/
theorem pd_X4_callOn : (⟨"CensusWalk$Simulation", "callOn", "(LCensusWalk$Town;II)I"⟩ : MethodName).cls = "CensusWalk$Simulation" ∧ (⟨"CensusWalk$Simulation", "callOn", "(LCensusWalk$Town;II)I"⟩ : MethodName).cls ≠ "java/lang/invoke/MethodHandle" ∧ (⟨"CensusWalk$Simulation", "callOn", "(LCensusWalk$Town;II)I"⟩ : MethodName).cls ≠ "java/lang/invoke/VarHandle" ∧ (parseMethodDescriptor (⟨"CensusWalk$Simulation", "callOn", "(LCensusWalk$Town;II)I"⟩ : MethodName).desc).map (fun d => d.parameters.length) = some 3 := by decide +kernel
def wp_X4_callOn_57 (E : ms_En) (o : Nat) (a1 : Nat) (a2 : Int32) (a3 : Int32) (post : Int32 → ms_St → Prop)  (u : ms_St)  : Prop := post 3 u
set_option maxHeartbeats 4000000 in
set_option maxRecDepth 100000 in
theorem c_X4_callOn_57 {p : Program} {l : Launch} {e : Env} {s : State} {m : MethodId} {args : Array Value} {below : List Frame} {meth : Method} {c : Code} {G : va_G} {cy : Nat → ClassId} {A : Nat → Prop} {L : Nat → Nat} {E : ms_En} (C : ms_Cx p m c cX4_callOn 5 s args (Cond.code ⟨"CensusWalk$Simulation", "callOn", "(LCensusWalk$Town;II)I"⟩ prog_6_method_6_code 5 (some .int)) "CensusWalk$Simulation" G cy A) (hr : meth.sig.returnType = (some .int)) (hlocks : meth.locks = false) (hE : ms_WT E) {o : Nat} {a1 : Nat} {a2 : Int32} {a3 : Int32} {post : Int32 → ms_St → Prop}  (ho : ms_is E o 4) (ha1 : ms_is E a1 7)  (u : ms_St)   (h : wp_X4_callOn_57 E o a1 a2 a3 post u ) : ms_At p l e ({ frames := 2, cells := 0, slots := 0, locals := 43 } : Room) s m args below meth c 5 G cy A L 0 0 (ms_QI below args s G cy L E A post 0 0) E u 57 [] [] := by
  unfold wp_X4_callOn_57 at h
  refine a_iconst (v := 3) C dX4_callOn_57 (by decide) rfl ?_
  exact a_iret C dX4_callOn_58 hr hlocks (Nat.le_of_ble_eq_true rfl) (Nat.le_of_ble_eq_true rfl) h
def wp_X4_callOn_59 (E : ms_En) (o : Nat) (a1 : Nat) (a2 : Int32) (a3 : Int32) (post : Int32 → ms_St → Prop)  (u : ms_St) (x4 : Int32) : Prop := vp_in a3 16 ∧ (vp_in a3 16 ∧ (∀ w68 : ms_St, w68 = (ms_sI u (ms_at E o 3) (Int32.toNatClampNeg a3) ((ms_I u (ms_at E o 3) (Int32.toNatClampNeg a3)) + 1)) → (vp_in a3 16 ∧ (wp_X0_homeAt E (ms_sI w68 (ms_at E o 5) (Int32.toNatClampNeg a3) x4) (ms_at E a1 4) a3 x4 (fun r84 u84 => (r84 = 0 → vp_in a2 3 ∧ (post 1 (ms_sI u84 (ms_at E o 2) (Int32.toNatClampNeg a2) (x4 + 1)))) ∧ (¬ r84 = 0 → vp_in a3 16 ∧ (wp_X0_visitTime E (ms_sI u84 o 4 ((ms_I u84 o 4) ||| (1 <<< (a3 &&& 31)))) (ms_at E a1 4) a3 (ms_I (ms_sI u84 o 4 ((ms_I u84 o 4) ||| (1 <<< (a3 &&& 31)))) (ms_at E o 3) (Int32.toNatClampNeg a3)) (fun r132 u132 => vp_in a2 3 ∧ (post 0 (ms_sI u132 (ms_at E o 2) (Int32.toNatClampNeg a2) (x4 + r132)))))))))))
set_option maxHeartbeats 4000000 in
set_option maxRecDepth 100000 in
theorem c_X4_callOn_59 {p : Program} {l : Launch} {e : Env} {s : State} {m : MethodId} {args : Array Value} {below : List Frame} {meth : Method} {c : Code} {G : va_G} {cy : Nat → ClassId} {A : Nat → Prop} {L : Nat → Nat} {E : ms_En} (C : ms_Cx p m c cX4_callOn 5 s args (Cond.code ⟨"CensusWalk$Simulation", "callOn", "(LCensusWalk$Town;II)I"⟩ prog_6_method_6_code 5 (some .int)) "CensusWalk$Simulation" G cy A) (hr : meth.sig.returnType = (some .int)) (hlocks : meth.locks = false) (hE : ms_WT E) {o : Nat} {a1 : Nat} {a2 : Int32} {a3 : Int32} {post : Int32 → ms_St → Prop}  (ho : ms_is E o 4) (ha1 : ms_is E a1 7)  (u : ms_St) (x4 : Int32)  (h : wp_X4_callOn_59 E o a1 a2 a3 post u x4) : ms_At p l e ({ frames := 2, cells := 0, slots := 0, locals := 43 } : Room) s m args below meth c 5 G cy A L 0 0 (ms_QI below args s G cy L E A post 0 0) E u 59 [(0, .ref (L o)), (1, .ref (L a1)), (2, .int a2), (3, .int a3), (4, .int x4)] [] := by
  unfold wp_X4_callOn_59 at h
  refine a_aload_n C dX4_callOn_59 rfl 0 rfl rfl ?_
  refine g_4_3 C hE dX4_callOn_60 ho kw_2_65 rfl ?_
  have k60 : ms_is E (ms_at E o 3) 13 := ms_wt hE ho rfl (by decide)
  have n60 : ms_N E (ms_at E o 3) = 16 := ms_wl hE ho (by decide) (by decide) rfl
  refine a_iload_n C dX4_callOn_63 rfl 3 rfl rfl ?_
  refine a_dup2 C dX4_callOn_64 rfl rfl rfl ?_
  obtain ⟨q65, h⟩ := h
  refine a_iald C dX4_callOn_65 k60 n60 q65 rfl ?_
  refine a_iconst (v := 1) C dX4_callOn_66 (by decide) rfl ?_
  refine a_iadd C dX4_callOn_67 rfl ?_
  obtain ⟨q68, h⟩ := h
  refine a_iast C dX4_callOn_68 k60 n60 q68 rfl ?_
  refine a_nmU (fun w68 e68 => ?_)
  replace h := h w68 e68
  refine a_aload_n C dX4_callOn_69 rfl 0 rfl rfl ?_
  refine g_4_5 C hE dX4_callOn_70 ho kw_2_69 rfl ?_
  have k70 : ms_is E (ms_at E o 5) 13 := ms_wt hE ho rfl (by decide)
  have n70 : ms_N E (ms_at E o 5) = 16 := ms_wl hE ho (by decide) (by decide) rfl
  refine a_iload_n C dX4_callOn_73 rfl 3 rfl rfl ?_
  refine a_iload C dX4_callOn_74 4 rfl rfl ?_
  obtain ⟨q76, h⟩ := h
  refine a_iast C dX4_callOn_76 k70 n70 q76 rfl ?_
  refine a_aload_n C dX4_callOn_77 rfl 1 rfl rfl ?_
  refine g_7_4 C hE dX4_callOn_78 ha1 kw_1_183 rfl ?_
  have k78 : ms_is E (ms_at E a1 4) 0 := ms_wt hE ha1 rfl (by decide)
  refine a_iload_n C dX4_callOn_81 rfl 3 rfl rfl ?_
  refine a_iload C dX4_callOn_82 4 rfl rfl ?_
  refine a_callVI C (c_X0_homeAt l G cy L E hE (ms_sI w68 (ms_at E o 5) (Int32.toNatClampNeg a3) x4) (ms_at E a1 4) a3 x4 k78 _ h) k78 rfl (by decide) kw_3_75 kw_3_76 kw_3_77 kw_1_4 kw_3_78 rfl rfl pd_X0_homeAt ⟨(Nat.le_of_ble_eq_true rfl), (Nat.le_of_ble_eq_true rfl)⟩ dX4_callOn_84 rfl (Nat.le_of_ble_eq_true rfl) ⟨(Nat.le_of_ble_eq_true rfl), (Nat.le_of_ble_eq_true rfl)⟩ rfl (fun r84 u84 h => ?_)
  refine a_if_ne (tgt := 102) C dX4_callOn_87 (by decide) rfl (fun hc => ?_) (fun hc => ?_)
  · replace h := h.2 hc
    refine a_aload_n C dX4_callOn_102 rfl 0 rfl rfl ?_
    refine a_dup C dX4_callOn_103 rfl rfl ?_
    refine g_4_4 C dX4_callOn_104 ho kw_2_67 rfl ?_
    refine a_iconst (v := 1) C dX4_callOn_107 (by decide) rfl ?_
    refine a_iload_n C dX4_callOn_108 rfl 3 rfl rfl ?_
    refine a_ishl C dX4_callOn_109 rfl ?_
    refine a_ior C dX4_callOn_110 rfl ?_
    refine s_4_4 C dX4_callOn_111 ho kw_2_67 rfl ?_
    refine a_aload_n C dX4_callOn_114 rfl 0 rfl rfl ?_
    refine g_4_2 C hE dX4_callOn_115 ho kw_2_63 rfl ?_
    have k115 : ms_is E (ms_at E o 2) 13 := ms_wt hE ho rfl (by decide)
    have n115 : ms_N E (ms_at E o 2) = 3 := ms_wl hE ho (by decide) (by decide) rfl
    refine a_iload_n C dX4_callOn_118 rfl 2 rfl rfl ?_
    refine a_iload C dX4_callOn_119 4 rfl rfl ?_
    refine a_aload_n C dX4_callOn_121 rfl 1 rfl rfl ?_
    refine g_7_4 C hE dX4_callOn_122 ha1 kw_1_183 rfl ?_
    refine a_iload_n C dX4_callOn_125 rfl 3 rfl rfl ?_
    refine a_aload_n C dX4_callOn_126 rfl 0 rfl rfl ?_
    refine g_4_3 C hE dX4_callOn_127 ho kw_2_65 rfl ?_
    refine a_iload_n C dX4_callOn_130 rfl 3 rfl rfl ?_
    obtain ⟨q131, h⟩ := h
    refine a_iald C dX4_callOn_131 k60 n60 q131 rfl ?_
    refine a_callVI C (c_X0_visitTime l G cy L E hE (ms_sI u84 o 4 ((ms_I u84 o 4) ||| (1 <<< (a3 &&& 31)))) (ms_at E a1 4) a3 (ms_I (ms_sI u84 o 4 ((ms_I u84 o 4) ||| (1 <<< (a3 &&& 31)))) (ms_at E o 3) (Int32.toNatClampNeg a3)) k78 _ h) k78 rfl (by decide) kw_3_80 kw_3_81 kw_3_82 kw_1_4 kw_3_83 rfl rfl pd_X0_visitTime ⟨(Nat.le_of_ble_eq_true rfl), (Nat.le_of_ble_eq_true rfl)⟩ dX4_callOn_132 rfl (Nat.le_of_ble_eq_true rfl) ⟨(Nat.le_of_ble_eq_true rfl), (Nat.le_of_ble_eq_true rfl)⟩ rfl (fun r132 u132 h => ?_)
    refine a_iadd C dX4_callOn_135 rfl ?_
    obtain ⟨q136, h⟩ := h
    refine a_iast C dX4_callOn_136 k115 n115 q136 rfl ?_
    refine a_iconst (v := 0) C dX4_callOn_137 (by decide) rfl ?_
    exact a_iret C dX4_callOn_138 hr hlocks (Nat.le_of_ble_eq_true rfl) (Nat.le_of_ble_eq_true rfl) h
  · replace h := h.1 hc
    refine a_aload_n C dX4_callOn_90 rfl 0 rfl rfl ?_
    refine g_4_2 C hE dX4_callOn_91 ho kw_2_63 rfl ?_
    have k91 : ms_is E (ms_at E o 2) 13 := ms_wt hE ho rfl (by decide)
    have n91 : ms_N E (ms_at E o 2) = 3 := ms_wl hE ho (by decide) (by decide) rfl
    refine a_iload_n C dX4_callOn_94 rfl 2 rfl rfl ?_
    refine a_iload C dX4_callOn_95 4 rfl rfl ?_
    refine a_iconst (v := 1) C dX4_callOn_97 (by decide) rfl ?_
    refine a_iadd C dX4_callOn_98 rfl ?_
    obtain ⟨q99, h⟩ := h
    refine a_iast C dX4_callOn_99 k91 n91 q99 rfl ?_
    refine a_iconst (v := 1) C dX4_callOn_100 (by decide) rfl ?_
    exact a_iret C dX4_callOn_101 hr hlocks (Nat.le_of_ble_eq_true rfl) (Nat.le_of_ble_eq_true rfl) h
def wp_X4_callOn (E : ms_En) (u : ms_St) (o : Nat) (a1 : Nat) (a2 : Int32) (a3 : Int32) (post : Int32 → ms_St → Prop) : Prop := vp_in a2 3 ∧ (∀ v6 : Int32, v6 = (ms_I u (ms_at E o 2) (Int32.toNatClampNeg a2)) → (wp_X10_contains E u (ms_I u o 4) a3 (fun r13 u13 => (r13 = 0 → vp_in a3 16 ∧ ((2 ≤ (ms_I u13 (ms_at E o 3) (Int32.toNatClampNeg a3)) → wp_X4_callOn_57 E o a1 a2 a3 post u13) ∧ (¬ 2 ≤ (ms_I u13 (ms_at E o 3) (Int32.toNatClampNeg a3)) → vp_in a3 16 ∧ (((ms_I u13 (ms_at E o 3) (Int32.toNatClampNeg a3)) = 1 → vp_in a3 16 ∧ (((ms_I u13 (ms_at E o 5) (Int32.toNatClampNeg a3)) ≤ (v6 - (ms_I u13 a1 2)) → wp_X4_callOn_59 E o a1 a2 a3 post u13 v6) ∧ (¬ (ms_I u13 (ms_at E o 5) (Int32.toNatClampNeg a3)) ≤ (v6 - (ms_I u13 a1 2)) → wp_X4_callOn_57 E o a1 a2 a3 post u13))) ∧ (¬ (ms_I u13 (ms_at E o 3) (Int32.toNatClampNeg a3)) = 1 → wp_X4_callOn_59 E o a1 a2 a3 post u13 v6))))) ∧ (¬ r13 = 0 → post 2 u13))))
set_option maxHeartbeats 4000000 in
set_option maxRecDepth 100000 in
theorem c_X4_callOn (l : Launch) (G : va_G) (cy : Nat → ClassId) (L : Nat → Nat) (E : ms_En) (hE : ms_WT E) (u : ms_St) (o : Nat) (a1 : Nat) (a2 : Int32) (a3 : Int32) (ho : ms_is E o 4) (ha1 : ms_is E a1 7) (post : Int32 → ms_St → Prop) (h : wp_X4_callOn E u o a1 a2 a3 post) : ms_MetI l ⟨"CensusWalk$Simulation", "callOn", "(LCensusWalk$Town;II)I"⟩ (Cond.code ⟨"CensusWalk$Simulation", "callOn", "(LCensusWalk$Town;II)I"⟩ prog_6_method_6_code 5 (some .int) :: lw_g) ({ frames := 2, cells := 0, slots := 0, locals := 43 } : Room) G cy L E [.ref (L o), .ref (L a1), .int a2, .int a3] u post 0 0 := by
  refine ms_enterI (lv := [(0, .ref (L o)), (1, .ref (L a1)), (2, .int a2), (3, .int a3)]) (by decide) (Nat.le_of_ble_eq_true rfl) rfl ?_
  intro p e s m args below meth c A C hr hlocks
  unfold wp_X4_callOn at h
  refine a_aload_n C dX4_callOn_0 rfl 0 rfl rfl ?_
  refine g_4_2 C hE dX4_callOn_1 ho kw_2_63 rfl ?_
  have k1 : ms_is E (ms_at E o 2) 13 := ms_wt hE ho rfl (by decide)
  have n1 : ms_N E (ms_at E o 2) = 3 := ms_wl hE ho (by decide) (by decide) rfl
  refine a_iload_n C dX4_callOn_4 rfl 2 rfl rfl ?_
  obtain ⟨q5, h⟩ := h
  refine a_iald C dX4_callOn_5 k1 n1 q5 rfl ?_
  refine a_nmI (fun v6 e6 => ?_)
  replace h := h v6 e6
  refine a_istore (lv' := [(0, .ref (L o)), (1, .ref (L a1)), (2, .int a2), (3, .int a3), (4, .int v6)]) C dX4_callOn_6 (by decide) [1, 2, 3, 4, 0] rfl rfl ?_
  refine a_aload_n C dX4_callOn_8 rfl 0 rfl rfl ?_
  refine g_4_4 C dX4_callOn_9 ho kw_2_67 rfl ?_
  refine a_iload_n C dX4_callOn_12 rfl 3 rfl rfl ?_
  refine a_callNI C (c_X10_contains l G cy L E hE u (ms_I u o 4) a3  _ h) (List.mem_of_getElem? (i := 11) rfl) kw_3_73 kw_1_1 kw_3_74 rfl rfl pd_X10_contains ⟨(Nat.le_of_ble_eq_true rfl), (Nat.le_of_ble_eq_true rfl)⟩ dX4_callOn_13 rfl (Nat.le_of_ble_eq_true rfl) ⟨(Nat.le_of_ble_eq_true rfl), (Nat.le_of_ble_eq_true rfl)⟩ rfl (fun r13 u13 h => ?_)
  refine a_if_eq (tgt := 21) C dX4_callOn_16 (by decide) rfl (fun hc => ?_) (fun hc => ?_)
  · replace h := h.1 hc
    refine a_aload_n C dX4_callOn_21 rfl 0 rfl rfl ?_
    refine g_4_3 C hE dX4_callOn_22 ho kw_2_65 rfl ?_
    have k22 : ms_is E (ms_at E o 3) 13 := ms_wt hE ho rfl (by decide)
    have n22 : ms_N E (ms_at E o 3) = 16 := ms_wl hE ho (by decide) (by decide) rfl
    refine a_iload_n C dX4_callOn_25 rfl 3 rfl rfl ?_
    obtain ⟨q26, h⟩ := h
    refine a_iald C dX4_callOn_26 k22 n22 q26 rfl ?_
    refine a_iconst (v := 2) C dX4_callOn_27 (by decide) rfl ?_
    refine a_icmp_ge (tgt := 57) C dX4_callOn_28 (by decide) rfl (fun hc => ?_) (fun hc => ?_)
    · replace h := h.1 hc
      refine a_sub (lv' := []) [] rfl ?_
      exact c_X4_callOn_57 C hr hlocks hE ho ha1  u13  h
    · replace h := h.2 hc
      refine a_aload_n C dX4_callOn_31 rfl 0 rfl rfl ?_
      refine g_4_3 C hE dX4_callOn_32 ho kw_2_65 rfl ?_
      refine a_iload_n C dX4_callOn_35 rfl 3 rfl rfl ?_
      obtain ⟨q36, h⟩ := h
      refine a_iald C dX4_callOn_36 k22 n22 q36 rfl ?_
      refine a_iconst (v := 1) C dX4_callOn_37 (by decide) rfl ?_
      refine a_icmp_ne (tgt := 59) C dX4_callOn_38 (by decide) rfl (fun hc => ?_) (fun hc => ?_)
      · replace h := h.2 hc
        exact c_X4_callOn_59 C hr hlocks hE ho ha1  u13 v6  h
      · replace h := h.1 hc
        refine a_aload_n C dX4_callOn_41 rfl 0 rfl rfl ?_
        refine g_4_5 C hE dX4_callOn_42 ho kw_2_69 rfl ?_
        have k42 : ms_is E (ms_at E o 5) 13 := ms_wt hE ho rfl (by decide)
        have n42 : ms_N E (ms_at E o 5) = 16 := ms_wl hE ho (by decide) (by decide) rfl
        refine a_iload_n C dX4_callOn_45 rfl 3 rfl rfl ?_
        obtain ⟨q46, h⟩ := h
        refine a_iald C dX4_callOn_46 k42 n42 q46 rfl ?_
        refine a_iload C dX4_callOn_47 4 rfl rfl ?_
        refine a_aload_n C dX4_callOn_49 rfl 1 rfl rfl ?_
        refine g_7_2 C dX4_callOn_50 ha1 kw_1_174 rfl ?_
        refine a_isub C dX4_callOn_53 rfl ?_
        refine a_icmp_le (tgt := 59) C dX4_callOn_54 (by decide) rfl (fun hc => ?_) (fun hc => ?_)
        · replace h := h.1 hc
          exact c_X4_callOn_59 C hr hlocks hE ho ha1  u13 v6  h
        · replace h := h.2 hc
          refine a_sub (lv' := []) [] rfl ?_
          exact c_X4_callOn_57 C hr hlocks hE ho ha1  u13  h
  · replace h := h.2 hc
    refine a_iconst (v := 2) C dX4_callOn_19 (by decide) rfl ?_
    exact a_iret C dX4_callOn_20 hr hlocks (Nat.le_of_ble_eq_true rfl) (Nat.le_of_ble_eq_true rfl) h

/-! CensusWalk$Simulation.treat(LCensusWalk$Town;I)V -/
theorem pd_X4_treat : (⟨"CensusWalk$Simulation", "treat", "(LCensusWalk$Town;I)V"⟩ : MethodName).cls = "CensusWalk$Simulation" ∧ (⟨"CensusWalk$Simulation", "treat", "(LCensusWalk$Town;I)V"⟩ : MethodName).cls ≠ "java/lang/invoke/MethodHandle" ∧ (⟨"CensusWalk$Simulation", "treat", "(LCensusWalk$Town;I)V"⟩ : MethodName).cls ≠ "java/lang/invoke/VarHandle" ∧ (parseMethodDescriptor (⟨"CensusWalk$Simulation", "treat", "(LCensusWalk$Town;I)V"⟩ : MethodName).desc).map (fun d => d.parameters.length) = some 2 := by decide +kernel
def wp_X4_treat (E : ms_En) (u : ms_St) (o : Nat) (a1 : Nat) (a2 : Int32) (post : ms_St → Prop) : Prop := vp_in a2 3 ∧ (∀ v6 : Int32, v6 = (ms_I u (ms_at E o 6) (Int32.toNatClampNeg a2)) → (wp_X9_plannedHouse E u (ms_at E a1 5) a2 v6 (fun r13 u13 => wp_X0_has E u13 (ms_at E a1 4) r13 (fun r24 u24 => (r24 = 0 → post u24) ∧ (¬ r24 = 0 → ∀ v37 : Int32, v37 = ((a2 * 12) + v6) → (vp_in a2 3 ∧ (vp_in a2 3 ∧ (((ms_I (ms_sI u24 (ms_at E o 6) (Int32.toNatClampNeg a2) (v6 + 1)) (ms_at E o 8) (Int32.toNatClampNeg a2)) = (-1) → vp_in a2 3 ∧ (vp_in v37 36 ∧ (∀ w70 : ms_St, w70 = (ms_sI (ms_sI u24 (ms_at E o 6) (Int32.toNatClampNeg a2) (v6 + 1)) (ms_at E o 1) (Int32.toNatClampNeg v37) (ms_I (ms_sI u24 (ms_at E o 6) (Int32.toNatClampNeg a2) (v6 + 1)) (ms_at E o 2) (Int32.toNatClampNeg a2))) → (vp_in v37 36 ∧ (post (ms_sI w70 (ms_at E o 0) (Int32.toNatClampNeg v37) 4)))))) ∧ (¬ (ms_I (ms_sI u24 (ms_at E o 6) (Int32.toNatClampNeg a2) (v6 + 1)) (ms_at E o 8) (Int32.toNatClampNeg a2)) = (-1) → vp_in a2 3 ∧ (∀ w87 : ms_St, w87 = (ms_sI (ms_sI u24 (ms_at E o 6) (Int32.toNatClampNeg a2) (v6 + 1)) (ms_at E o 7) (Int32.toNatClampNeg a2) r13) → (vp_in a2 3 ∧ (vp_in a2 3 ∧ (vp_in a2 3 ∧ (∀ w102 : ms_St, w102 = (ms_sI w87 (ms_at E o 2) (Int32.toNatClampNeg a2) ((ms_I w87 (ms_at E o 2) (Int32.toNatClampNeg a2)) + (ms_I w87 (ms_at E o 8) (Int32.toNatClampNeg a2)))) → (vp_in a2 3 ∧ (vp_in v37 36 ∧ (∀ w115 : ms_St, w115 = (ms_sI w102 (ms_at E o 1) (Int32.toNatClampNeg v37) (ms_I w102 (ms_at E o 2) (Int32.toNatClampNeg a2))) → (wp_X4_callOn E w115 o a1 a2 r13 (fun r127 u127 => vp_in v37 36 ∧ (post (ms_sI u127 (ms_at E o 0) (Int32.toNatClampNeg v37) r127)))))))))))))))))))))
set_option maxHeartbeats 4000000 in
set_option maxRecDepth 100000 in
theorem c_X4_treat (l : Launch) (G : va_G) (cy : Nat → ClassId) (L : Nat → Nat) (E : ms_En) (hE : ms_WT E) (u : ms_St) (o : Nat) (a1 : Nat) (a2 : Int32) (ho : ms_is E o 4) (ha1 : ms_is E a1 7) (post : ms_St → Prop) (h : wp_X4_treat E u o a1 a2 post) : ms_MetV l ⟨"CensusWalk$Simulation", "treat", "(LCensusWalk$Town;I)V"⟩ (Cond.code ⟨"CensusWalk$Simulation", "treat", "(LCensusWalk$Town;I)V"⟩ prog_6_method_5_code 6 none :: lw_g) ({ frames := 3, cells := 0, slots := 0, locals := 67 } : Room) G cy L E [.ref (L o), .ref (L a1), .int a2] u post 0 0 := by
  refine ms_enterV (lv := [(0, .ref (L o)), (1, .ref (L a1)), (2, .int a2)]) (by decide) (Nat.le_of_ble_eq_true rfl) rfl ?_
  intro p e s m args below meth c A C hr hlocks
  unfold wp_X4_treat at h
  refine a_aload_n C dX4_treat_0 rfl 0 rfl rfl ?_
  refine g_4_6 C hE dX4_treat_1 ho kw_2_70 rfl ?_
  have k1 : ms_is E (ms_at E o 6) 13 := ms_wt hE ho rfl (by decide)
  have n1 : ms_N E (ms_at E o 6) = 3 := ms_wl hE ho (by decide) (by decide) rfl
  refine a_iload_n C dX4_treat_4 rfl 2 rfl rfl ?_
  obtain ⟨q5, h⟩ := h
  refine a_iald C dX4_treat_5 k1 n1 q5 rfl ?_
  refine a_nmI (fun v6 e6 => ?_)
  replace h := h v6 e6
  refine a_istore_n (lv' := [(0, .ref (L o)), (1, .ref (L a1)), (2, .int a2), (3, .int v6)]) C dX4_treat_6 rfl (by decide) [1, 2, 3, 0] rfl rfl ?_
  refine a_aload_n C dX4_treat_7 rfl 1 rfl rfl ?_
  refine g_7_5 C hE dX4_treat_8 ha1 kw_1_186 rfl ?_
  have k8 : ms_is E (ms_at E a1 5) 9 := ms_wt hE ha1 rfl (by decide)
  refine a_iload_n C dX4_treat_11 rfl 2 rfl rfl ?_
  refine a_iload_n C dX4_treat_12 rfl 3 rfl rfl ?_
  refine a_callVI C (c_X9_plannedHouse l G cy L E hE u (ms_at E a1 5) a2 v6 k8 _ h) k8 rfl (by decide) kw_3_22 kw_3_23 kw_3_24 kw_1_5 kw_3_25 rfl rfl pd_X9_plannedHouse ⟨(Nat.le_of_ble_eq_true rfl), (Nat.le_of_ble_eq_true rfl)⟩ dX4_treat_13 rfl (Nat.le_of_ble_eq_true rfl) ⟨(Nat.le_of_ble_eq_true rfl), (Nat.le_of_ble_eq_true rfl)⟩ rfl (fun r13 u13 h => ?_)
  refine a_istore (lv' := [(0, .ref (L o)), (1, .ref (L a1)), (2, .int a2), (3, .int v6), (4, .int r13)]) C dX4_treat_16 (by decide) [1, 2, 3, 4, 0] rfl rfl ?_
  refine a_aload_n C dX4_treat_18 rfl 1 rfl rfl ?_
  refine g_7_4 C hE dX4_treat_19 ha1 kw_1_183 rfl ?_
  have k19 : ms_is E (ms_at E a1 4) 0 := ms_wt hE ha1 rfl (by decide)
  refine a_iload C dX4_treat_22 4 rfl rfl ?_
  refine a_callVI C (c_X0_has l G cy L E hE u13 (ms_at E a1 4) r13 k19 _ h) k19 rfl (by decide) kw_3_67 kw_3_39 kw_3_40 kw_1_4 kw_3_41 rfl rfl pd_X0_has ⟨(Nat.le_of_ble_eq_true rfl), (Nat.le_of_ble_eq_true rfl)⟩ dX4_treat_24 rfl (Nat.le_of_ble_eq_true rfl) ⟨(Nat.le_of_ble_eq_true rfl), (Nat.le_of_ble_eq_true rfl)⟩ rfl (fun r24 u24 h => ?_)
  refine a_if_ne (tgt := 31) C dX4_treat_27 (by decide) rfl (fun hc => ?_) (fun hc => ?_)
  · replace h := h.2 hc
    refine a_iload_n C dX4_treat_31 rfl 2 rfl rfl ?_
    refine a_bipush (v := 12) C dX4_treat_32 (by decide) rfl ?_
    refine a_imul C dX4_treat_34 rfl ?_
    refine a_iload_n C dX4_treat_35 rfl 3 rfl rfl ?_
    refine a_iadd C dX4_treat_36 rfl ?_
    refine a_nmI (fun v37 e37 => ?_)
    replace h := h v37 e37
    refine a_istore (lv' := [(0, .ref (L o)), (1, .ref (L a1)), (2, .int a2), (3, .int v6), (4, .int r13), (5, .int v37)]) C dX4_treat_37 (by decide) [1, 2, 3, 4, 5, 0] rfl rfl ?_
    refine a_aload_n C dX4_treat_39 rfl 0 rfl rfl ?_
    refine g_4_6 C hE dX4_treat_40 ho kw_2_70 rfl ?_
    refine a_iload_n C dX4_treat_43 rfl 2 rfl rfl ?_
    refine a_iload_n C dX4_treat_44 rfl 3 rfl rfl ?_
    refine a_iconst (v := 1) C dX4_treat_45 (by decide) rfl ?_
    refine a_iadd C dX4_treat_46 rfl ?_
    obtain ⟨q47, h⟩ := h
    refine a_iast C dX4_treat_47 k1 n1 q47 rfl ?_
    refine a_aload_n C dX4_treat_48 rfl 0 rfl rfl ?_
    refine g_4_8 C hE dX4_treat_49 ho kw_2_72 rfl ?_
    have k49 : ms_is E (ms_at E o 8) 13 := ms_wt hE ho rfl (by decide)
    have n49 : ms_N E (ms_at E o 8) = 3 := ms_wl hE ho (by decide) (by decide) rfl
    refine a_iload_n C dX4_treat_52 rfl 2 rfl rfl ?_
    obtain ⟨q53, h⟩ := h
    refine a_iald C dX4_treat_53 k49 n49 q53 rfl ?_
    refine a_iconst (v := (-1)) C dX4_treat_54 (by decide) rfl ?_
    refine a_icmp_ne (tgt := 80) C dX4_treat_55 (by decide) rfl (fun hc => ?_) (fun hc => ?_)
    · replace h := h.2 hc
      refine a_aload_n C dX4_treat_80 rfl 0 rfl rfl ?_
      refine g_4_7 C hE dX4_treat_81 ho kw_2_71 rfl ?_
      have k81 : ms_is E (ms_at E o 7) 13 := ms_wt hE ho rfl (by decide)
      have n81 : ms_N E (ms_at E o 7) = 3 := ms_wl hE ho (by decide) (by decide) rfl
      refine a_iload_n C dX4_treat_84 rfl 2 rfl rfl ?_
      refine a_iload C dX4_treat_85 4 rfl rfl ?_
      obtain ⟨q87, h⟩ := h
      refine a_iast C dX4_treat_87 k81 n81 q87 rfl ?_
      refine a_nmU (fun w87 e87 => ?_)
      replace h := h w87 e87
      refine a_aload_n C dX4_treat_88 rfl 0 rfl rfl ?_
      refine g_4_2 C hE dX4_treat_89 ho kw_2_63 rfl ?_
      have k89 : ms_is E (ms_at E o 2) 13 := ms_wt hE ho rfl (by decide)
      have n89 : ms_N E (ms_at E o 2) = 3 := ms_wl hE ho (by decide) (by decide) rfl
      refine a_iload_n C dX4_treat_92 rfl 2 rfl rfl ?_
      refine a_dup2 C dX4_treat_93 rfl rfl rfl ?_
      obtain ⟨q94, h⟩ := h
      refine a_iald C dX4_treat_94 k89 n89 q94 rfl ?_
      refine a_aload_n C dX4_treat_95 rfl 0 rfl rfl ?_
      refine g_4_8 C hE dX4_treat_96 ho kw_2_72 rfl ?_
      refine a_iload_n C dX4_treat_99 rfl 2 rfl rfl ?_
      obtain ⟨q100, h⟩ := h
      refine a_iald C dX4_treat_100 k49 n49 q100 rfl ?_
      refine a_iadd C dX4_treat_101 rfl ?_
      obtain ⟨q102, h⟩ := h
      refine a_iast C dX4_treat_102 k89 n89 q102 rfl ?_
      refine a_nmU (fun w102 e102 => ?_)
      replace h := h w102 e102
      refine a_aload_n C dX4_treat_103 rfl 0 rfl rfl ?_
      refine g_4_1 C hE dX4_treat_104 ho kw_2_61 rfl ?_
      have k104 : ms_is E (ms_at E o 1) 13 := ms_wt hE ho rfl (by decide)
      have n104 : ms_N E (ms_at E o 1) = 36 := ms_wl hE ho (by decide) (by decide) rfl
      refine a_iload C dX4_treat_107 5 rfl rfl ?_
      refine a_aload_n C dX4_treat_109 rfl 0 rfl rfl ?_
      refine g_4_2 C hE dX4_treat_110 ho kw_2_63 rfl ?_
      refine a_iload_n C dX4_treat_113 rfl 2 rfl rfl ?_
      obtain ⟨q114, h⟩ := h
      refine a_iald C dX4_treat_114 k89 n89 q114 rfl ?_
      obtain ⟨q115, h⟩ := h
      refine a_iast C dX4_treat_115 k104 n104 q115 rfl ?_
      refine a_nmU (fun w115 e115 => ?_)
      replace h := h w115 e115
      refine a_aload_n C dX4_treat_116 rfl 0 rfl rfl ?_
      refine g_4_0 C hE dX4_treat_117 ho kw_2_59 rfl ?_
      have k117 : ms_is E (ms_at E o 0) 13 := ms_wt hE ho rfl (by decide)
      have n117 : ms_N E (ms_at E o 0) = 36 := ms_wl hE ho (by decide) (by decide) rfl
      refine a_iload C dX4_treat_120 5 rfl rfl ?_
      refine a_aload_n C dX4_treat_122 rfl 0 rfl rfl ?_
      refine a_aload_n C dX4_treat_123 rfl 1 rfl rfl ?_
      refine a_iload_n C dX4_treat_124 rfl 2 rfl rfl ?_
      refine a_iload C dX4_treat_125 4 rfl rfl ?_
      refine a_callVI C (c_X4_callOn l G cy L E hE w115 o a1 a2 r13 ho ha1 _ h) ho rfl (by decide) kw_3_68 kw_3_70 kp_10 kw_1_10 kw_3_71 rfl rfl pd_X4_callOn ⟨(Nat.le_of_ble_eq_true rfl), (Nat.le_of_ble_eq_true rfl)⟩ dX4_treat_127 rfl (Nat.le_of_ble_eq_true rfl) ⟨(Nat.le_of_ble_eq_true rfl), (Nat.le_of_ble_eq_true rfl)⟩ rfl (fun r127 u127 h => ?_)
      obtain ⟨q130, h⟩ := h
      refine a_iast C dX4_treat_130 k117 n117 q130 rfl ?_
      exact a_vret C dX4_treat_131 hr hlocks (Nat.le_of_ble_eq_true rfl) (Nat.le_of_ble_eq_true rfl) h
    · replace h := h.1 hc
      refine a_aload_n C dX4_treat_58 rfl 0 rfl rfl ?_
      refine g_4_1 C hE dX4_treat_59 ho kw_2_61 rfl ?_
      have k59 : ms_is E (ms_at E o 1) 13 := ms_wt hE ho rfl (by decide)
      have n59 : ms_N E (ms_at E o 1) = 36 := ms_wl hE ho (by decide) (by decide) rfl
      refine a_iload C dX4_treat_62 5 rfl rfl ?_
      refine a_aload_n C dX4_treat_64 rfl 0 rfl rfl ?_
      refine g_4_2 C hE dX4_treat_65 ho kw_2_63 rfl ?_
      have k65 : ms_is E (ms_at E o 2) 13 := ms_wt hE ho rfl (by decide)
      have n65 : ms_N E (ms_at E o 2) = 3 := ms_wl hE ho (by decide) (by decide) rfl
      refine a_iload_n C dX4_treat_68 rfl 2 rfl rfl ?_
      obtain ⟨q69, h⟩ := h
      refine a_iald C dX4_treat_69 k65 n65 q69 rfl ?_
      obtain ⟨q70, h⟩ := h
      refine a_iast C dX4_treat_70 k59 n59 q70 rfl ?_
      refine a_nmU (fun w70 e70 => ?_)
      replace h := h w70 e70
      refine a_aload_n C dX4_treat_71 rfl 0 rfl rfl ?_
      refine g_4_0 C hE dX4_treat_72 ho kw_2_59 rfl ?_
      have k72 : ms_is E (ms_at E o 0) 13 := ms_wt hE ho rfl (by decide)
      have n72 : ms_N E (ms_at E o 0) = 36 := ms_wl hE ho (by decide) (by decide) rfl
      refine a_iload C dX4_treat_75 5 rfl rfl ?_
      refine a_iconst (v := 4) C dX4_treat_77 (by decide) rfl ?_
      obtain ⟨q78, h⟩ := h
      refine a_iast C dX4_treat_78 k72 n72 q78 rfl ?_
      exact a_vret C dX4_treat_79 hr hlocks (Nat.le_of_ble_eq_true rfl) (Nat.le_of_ble_eq_true rfl) h
  · replace h := h.1 hc
    exact a_vret C dX4_treat_30 hr hlocks (Nat.le_of_ble_eq_true rfl) (Nat.le_of_ble_eq_true rfl) h

/-! CensusWalk$Simulation.run(LCensusWalk$Town;LCensusWalk$Routes;)V -/
theorem pd_X4_run : (⟨"CensusWalk$Simulation", "run", "(LCensusWalk$Town;LCensusWalk$Routes;)V"⟩ : MethodName).cls = "CensusWalk$Simulation" ∧ (⟨"CensusWalk$Simulation", "run", "(LCensusWalk$Town;LCensusWalk$Routes;)V"⟩ : MethodName).cls ≠ "java/lang/invoke/MethodHandle" ∧ (⟨"CensusWalk$Simulation", "run", "(LCensusWalk$Town;LCensusWalk$Routes;)V"⟩ : MethodName).cls ≠ "java/lang/invoke/VarHandle" ∧ (parseMethodDescriptor (⟨"CensusWalk$Simulation", "run", "(LCensusWalk$Town;LCensusWalk$Routes;)V"⟩ : MethodName).desc).map (fun d => d.parameters.length) = some 2 := by decide +kernel
def wp_X4_run_70 (E : ms_En) (o : Nat) (a1 : Nat) (a2 : Nat) (post : ms_St → Prop)  : Nat → ms_St → Int32 → Prop
  | 0 => fun _ _ => False
  | n + 1 => fun u x3 => (36 ≤ x3 → post u) ∧ (¬ 36 ≤ x3 → wp_X4_firstToArrive E u o (ms_at E a1 5) (fun r81 u81 => (r81 = (-1) → post u81) ∧ (¬ r81 = (-1) → wp_X4_treat E u81 o a1 r81 (fun u97 => wp_X4_lookAhead E u97 o a1 a2 r81 (fun u105 => wp_X4_run_70 E o a1 a2 post n u105 (x3 + 1))))))
set_option maxHeartbeats 4000000 in
set_option maxRecDepth 100000 in
theorem c_X4_run_70 {p : Program} {l : Launch} {e : Env} {s : State} {m : MethodId} {args : Array Value} {below : List Frame} {meth : Method} {c : Code} {G : va_G} {cy : Nat → ClassId} {A : Nat → Prop} {L : Nat → Nat} {E : ms_En} (C : ms_Cx p m c cX4_run 5 s args (Cond.code ⟨"CensusWalk$Simulation", "run", "(LCensusWalk$Town;LCensusWalk$Routes;)V"⟩ prog_6_method_2_code 5 none) "CensusWalk$Simulation" G cy A) (hr : meth.sig.returnType = none) (hlocks : meth.locks = false) (hE : ms_WT E) {o : Nat} {a1 : Nat} {a2 : Nat} {post : ms_St → Prop}  (ho : ms_is E o 4) (ha1 : ms_is E a1 7) (ha2 : ms_is E a2 1)  : ∀ (n : Nat) (u : ms_St) (x3 : Int32), wp_X4_run_70 E o a1 a2 post n u x3 → ms_At p l e ({ frames := 5, cells := 0, slots := 0, locals := 121 } : Room) s m args below meth c 5 G cy A L 0 0 (ms_QV below args s G cy L E A post 0 0) E u 70 [(0, .ref (L o)), (1, .ref (L a1)), (2, .ref (L a2)), (3, .int x3)] [] := by
  intro n
  induction n with
  | zero =>
    intro u x3  h
    exact absurd h id
  | succ n ih =>
    intro u x3  h
    unfold wp_X4_run_70 at h
    refine a_iload_n C dX4_run_70 rfl 3 rfl rfl ?_
    refine a_bipush (v := 36) C dX4_run_71 (by decide) rfl ?_
    refine a_icmp_ge (tgt := 114) C dX4_run_73 (by decide) rfl (fun hc => ?_) (fun hc => ?_)
    · replace h := h.1 hc
      exact a_vret C dX4_run_114 hr hlocks (Nat.le_of_ble_eq_true rfl) (Nat.le_of_ble_eq_true rfl) h
    · replace h := h.2 hc
      refine a_aload_n C dX4_run_76 rfl 0 rfl rfl ?_
      refine a_aload_n C dX4_run_77 rfl 1 rfl rfl ?_
      refine g_7_5 C hE dX4_run_78 ha1 kw_1_186 rfl ?_
      have k78 : ms_is E (ms_at E a1 5) 9 := ms_wt hE ha1 rfl (by decide)
      refine a_callVI C (c_X4_firstToArrive l G cy L E hE u o (ms_at E a1 5) ho k78 _ h) ho rfl (by decide) kw_3_56 kw_3_58 kp_8 kw_1_10 kw_3_59 rfl rfl pd_X4_firstToArrive ⟨(Nat.le_of_ble_eq_true rfl), (Nat.le_of_ble_eq_true rfl)⟩ dX4_run_81 rfl (Nat.le_of_ble_eq_true rfl) ⟨(Nat.le_of_ble_eq_true rfl), (Nat.le_of_ble_eq_true rfl)⟩ rfl (fun r81 u81 h => ?_)
      refine a_istore (lv' := [(0, .ref (L o)), (1, .ref (L a1)), (2, .ref (L a2)), (3, .int x3), (4, .int r81)]) C dX4_run_84 (by decide) [1, 2, 3, 4, 0] rfl rfl ?_
      refine a_iload C dX4_run_86 4 rfl rfl ?_
      refine a_iconst (v := (-1)) C dX4_run_88 (by decide) rfl ?_
      refine a_icmp_ne (tgt := 93) C dX4_run_89 (by decide) rfl (fun hc => ?_) (fun hc => ?_)
      · replace h := h.2 hc
        refine a_aload_n C dX4_run_93 rfl 0 rfl rfl ?_
        refine a_aload_n C dX4_run_94 rfl 1 rfl rfl ?_
        refine a_iload C dX4_run_95 4 rfl rfl ?_
        refine a_callVV C (c_X4_treat l G cy L E hE u81 o a1 r81 ho ha1 _ h) ho rfl (by decide) kw_3_63 kw_3_65 kp_9 kw_1_10 kw_3_66 rfl rfl pd_X4_treat ⟨(Nat.le_of_ble_eq_true rfl), (Nat.le_of_ble_eq_true rfl)⟩ dX4_run_97 rfl (Nat.le_of_ble_eq_true rfl) ⟨(Nat.le_of_ble_eq_true rfl), (Nat.le_of_ble_eq_true rfl)⟩ rfl (fun u97 h => ?_)
        refine a_aload_n C dX4_run_100 rfl 0 rfl rfl ?_
        refine a_aload_n C dX4_run_101 rfl 1 rfl rfl ?_
        refine a_aload_n C dX4_run_102 rfl 2 rfl rfl ?_
        refine a_iload C dX4_run_103 4 rfl rfl ?_
        refine a_callVV C (c_X4_lookAhead l G cy L E hE u97 o a1 a2 r81 ho ha1 ha2 _ h) ho rfl (by decide) kw_3_18 kw_3_20 kp_6 kw_1_10 kw_3_21 rfl rfl pd_X4_lookAhead ⟨(Nat.le_of_ble_eq_true rfl), (Nat.le_of_ble_eq_true rfl)⟩ dX4_run_105 rfl (Nat.le_of_ble_eq_true rfl) ⟨(Nat.le_of_ble_eq_true rfl), (Nat.le_of_ble_eq_true rfl)⟩ rfl (fun u105 h => ?_)
        refine a_iinc (lv' := [(0, .ref (L o)), (1, .ref (L a1)), (2, .ref (L a2)), (3, .int (x3 + 1)), (4, .int r81)]) (v := (x3 + 1)) C dX4_run_108 3 rfl (congrArg (fun z => x3 + z) (by decide)) (by decide) [1, 2, 3, 0, 4] rfl rfl ?_
        refine a_goto (tgt := 70) C dX4_run_111 (by decide) ?_
        refine a_sub (lv' := [(0, .ref (L o)), (1, .ref (L a1)), (2, .ref (L a2)), (3, .int (x3 + 1))]) [0, 1, 2, 3] rfl ?_
        exact ih u105 (x3 + 1)  h
      · replace h := h.1 hc
        exact a_vret C dX4_run_92 hr hlocks (Nat.le_of_ble_eq_true rfl) (Nat.le_of_ble_eq_true rfl) h
def wp_X4_run_15 (E : ms_En) (o : Nat) (a1 : Nat) (a2 : Nat) (post : ms_St → Prop)  : Nat → ms_St → Int32 → Prop
  | 0 => fun _ _ => False
  | n + 1 => fun u x3 => ((ms_I u (ms_at E a1 5) 0) ≤ x3 → ∃ n70, wp_X4_run_70 E o a1 a2 post n70 u 0) ∧ (¬ (ms_I u (ms_at E a1 5) 0) ≤ x3 → vp_in x3 3 ∧ (vp_in x3 3 ∧ (∀ w39 : ms_St, w39 = (ms_sI (ms_sI u (ms_at E o 6) (Int32.toNatClampNeg x3) 0) (ms_at E o 7) (Int32.toNatClampNeg x3) (-1)) → (vp_in x3 3 ∧ (vp_in x3 3 ∧ (∀ w54 : ms_St, w54 = (ms_sI w39 (ms_at E o 2) (Int32.toNatClampNeg x3) (ms_I w39 (ms_at E (ms_at E a1 5) 2) (Int32.toNatClampNeg x3))) → (wp_X4_lookAhead E w54 o a1 a2 x3 (fun u59 => wp_X4_run_15 E o a1 a2 post n u59 (x3 + 1)))))))))
set_option maxHeartbeats 4000000 in
set_option maxRecDepth 100000 in
theorem c_X4_run_15 {p : Program} {l : Launch} {e : Env} {s : State} {m : MethodId} {args : Array Value} {below : List Frame} {meth : Method} {c : Code} {G : va_G} {cy : Nat → ClassId} {A : Nat → Prop} {L : Nat → Nat} {E : ms_En} (C : ms_Cx p m c cX4_run 5 s args (Cond.code ⟨"CensusWalk$Simulation", "run", "(LCensusWalk$Town;LCensusWalk$Routes;)V"⟩ prog_6_method_2_code 5 none) "CensusWalk$Simulation" G cy A) (hr : meth.sig.returnType = none) (hlocks : meth.locks = false) (hE : ms_WT E) {o : Nat} {a1 : Nat} {a2 : Nat} {post : ms_St → Prop}  (ho : ms_is E o 4) (ha1 : ms_is E a1 7) (ha2 : ms_is E a2 1)  : ∀ (n : Nat) (u : ms_St) (x3 : Int32), wp_X4_run_15 E o a1 a2 post n u x3 → ms_At p l e ({ frames := 5, cells := 0, slots := 0, locals := 121 } : Room) s m args below meth c 5 G cy A L 0 0 (ms_QV below args s G cy L E A post 0 0) E u 15 [(0, .ref (L o)), (1, .ref (L a1)), (2, .ref (L a2)), (3, .int x3)] [] := by
  intro n
  induction n with
  | zero =>
    intro u x3  h
    exact absurd h id
  | succ n ih =>
    intro u x3  h
    unfold wp_X4_run_15 at h
    refine a_iload_n C dX4_run_15 rfl 3 rfl rfl ?_
    refine a_aload_n C dX4_run_16 rfl 1 rfl rfl ?_
    refine g_7_5 C hE dX4_run_17 ha1 kw_1_186 rfl ?_
    have k17 : ms_is E (ms_at E a1 5) 9 := ms_wt hE ha1 rfl (by decide)
    refine g_9_0 C dX4_run_20 k17 kw_1_138 rfl ?_
    refine a_icmp_ge (tgt := 68) C dX4_run_23 (by decide) rfl (fun hc => ?_) (fun hc => ?_)
    · replace h := h.1 hc
      refine a_iconst (v := 0) C dX4_run_68 (by decide) rfl ?_
      refine a_istore_n (lv' := [(0, .ref (L o)), (1, .ref (L a1)), (2, .ref (L a2)), (3, .int 0)]) C dX4_run_69 rfl (by decide) [1, 2, 3, 0] rfl rfl ?_
      obtain ⟨n9, h⟩ := h
      exact c_X4_run_70 C hr hlocks hE ho ha1 ha2  n9 u 0  h
    · replace h := h.2 hc
      refine a_aload_n C dX4_run_26 rfl 0 rfl rfl ?_
      refine g_4_6 C hE dX4_run_27 ho kw_2_70 rfl ?_
      have k27 : ms_is E (ms_at E o 6) 13 := ms_wt hE ho rfl (by decide)
      have n27 : ms_N E (ms_at E o 6) = 3 := ms_wl hE ho (by decide) (by decide) rfl
      refine a_iload_n C dX4_run_30 rfl 3 rfl rfl ?_
      refine a_iconst (v := 0) C dX4_run_31 (by decide) rfl ?_
      obtain ⟨q32, h⟩ := h
      refine a_iast C dX4_run_32 k27 n27 q32 rfl ?_
      refine a_aload_n C dX4_run_33 rfl 0 rfl rfl ?_
      refine g_4_7 C hE dX4_run_34 ho kw_2_71 rfl ?_
      have k34 : ms_is E (ms_at E o 7) 13 := ms_wt hE ho rfl (by decide)
      have n34 : ms_N E (ms_at E o 7) = 3 := ms_wl hE ho (by decide) (by decide) rfl
      refine a_iload_n C dX4_run_37 rfl 3 rfl rfl ?_
      refine a_iconst (v := (-1)) C dX4_run_38 (by decide) rfl ?_
      obtain ⟨q39, h⟩ := h
      refine a_iast C dX4_run_39 k34 n34 q39 rfl ?_
      refine a_nmU (fun w39 e39 => ?_)
      replace h := h w39 e39
      refine a_aload_n C dX4_run_40 rfl 0 rfl rfl ?_
      refine g_4_2 C hE dX4_run_41 ho kw_2_63 rfl ?_
      have k41 : ms_is E (ms_at E o 2) 13 := ms_wt hE ho rfl (by decide)
      have n41 : ms_N E (ms_at E o 2) = 3 := ms_wl hE ho (by decide) (by decide) rfl
      refine a_iload_n C dX4_run_44 rfl 3 rfl rfl ?_
      refine a_aload_n C dX4_run_45 rfl 1 rfl rfl ?_
      refine g_7_5 C hE dX4_run_46 ha1 kw_1_186 rfl ?_
      refine g_9_2 C hE dX4_run_49 k17 kw_1_147 rfl ?_
      have k49 : ms_is E (ms_at E (ms_at E a1 5) 2) 13 := ms_wt hE k17 rfl (by decide)
      have n49 : ms_N E (ms_at E (ms_at E a1 5) 2) = 3 := ms_wl hE k17 (by decide) (by decide) rfl
      refine a_iload_n C dX4_run_52 rfl 3 rfl rfl ?_
      obtain ⟨q53, h⟩ := h
      refine a_iald C dX4_run_53 k49 n49 q53 rfl ?_
      obtain ⟨q54, h⟩ := h
      refine a_iast C dX4_run_54 k41 n41 q54 rfl ?_
      refine a_nmU (fun w54 e54 => ?_)
      replace h := h w54 e54
      refine a_aload_n C dX4_run_55 rfl 0 rfl rfl ?_
      refine a_aload_n C dX4_run_56 rfl 1 rfl rfl ?_
      refine a_aload_n C dX4_run_57 rfl 2 rfl rfl ?_
      refine a_iload_n C dX4_run_58 rfl 3 rfl rfl ?_
      refine a_callVV C (c_X4_lookAhead l G cy L E hE w54 o a1 a2 x3 ho ha1 ha2 _ h) ho rfl (by decide) kw_3_18 kw_3_20 kp_6 kw_1_10 kw_3_21 rfl rfl pd_X4_lookAhead ⟨(Nat.le_of_ble_eq_true rfl), (Nat.le_of_ble_eq_true rfl)⟩ dX4_run_59 rfl (Nat.le_of_ble_eq_true rfl) ⟨(Nat.le_of_ble_eq_true rfl), (Nat.le_of_ble_eq_true rfl)⟩ rfl (fun u59 h => ?_)
      refine a_iinc (lv' := [(0, .ref (L o)), (1, .ref (L a1)), (2, .ref (L a2)), (3, .int (x3 + 1))]) (v := (x3 + 1)) C dX4_run_62 3 rfl (congrArg (fun z => x3 + z) (by decide)) (by decide) [1, 2, 3, 0] rfl rfl ?_
      refine a_goto (tgt := 15) C dX4_run_65 (by decide) ?_
      exact ih u59 (x3 + 1)  h
def wp_X4_run (E : ms_En) (u : ms_St) (o : Nat) (a1 : Nat) (a2 : Nat) (post : ms_St → Prop) : Prop := wp_J7_fill_53178 E u (ms_at E o 3) 0 (fun u5 => ∃ n15, wp_X4_run_15 E o a1 a2 post n15 (ms_sI u5 o 4 0) 0)
set_option maxHeartbeats 4000000 in
set_option maxRecDepth 100000 in
theorem c_X4_run (l : Launch) (G : va_G) (cy : Nat → ClassId) (L : Nat → Nat) (E : ms_En) (hE : ms_WT E) (u : ms_St) (o : Nat) (a1 : Nat) (a2 : Nat) (ho : ms_is E o 4) (ha1 : ms_is E a1 7) (ha2 : ms_is E a2 1) (post : ms_St → Prop) (h : wp_X4_run E u o a1 a2 post) : ms_MetV l ⟨"CensusWalk$Simulation", "run", "(LCensusWalk$Town;LCensusWalk$Routes;)V"⟩ (Cond.code ⟨"CensusWalk$Simulation", "run", "(LCensusWalk$Town;LCensusWalk$Routes;)V"⟩ prog_6_method_2_code 5 none :: lw_g) ({ frames := 5, cells := 0, slots := 0, locals := 121 } : Room) G cy L E [.ref (L o), .ref (L a1), .ref (L a2)] u post 0 0 := by
  refine ms_enterV (lv := [(0, .ref (L o)), (1, .ref (L a1)), (2, .ref (L a2))]) (by decide) (Nat.le_of_ble_eq_true rfl) rfl ?_
  intro p e s m args below meth c A C hr hlocks
  unfold wp_X4_run at h
  refine a_aload_n C dX4_run_0 rfl 0 rfl rfl ?_
  refine g_4_3 C hE dX4_run_1 ho kw_2_65 rfl ?_
  have k1 : ms_is E (ms_at E o 3) 13 := ms_wt hE ho rfl (by decide)
  have n1 : ms_N E (ms_at E o 3) = 16 := ms_wl hE ho (by decide) (by decide) rfl
  refine a_iconst (v := 0) C dX4_run_4 (by decide) rfl ?_
  refine a_callSV C (c_J7_fill_53178 l G cy L E hE u (ms_at E o 3) 0 k1 _ h) kw_3_17 kw_2_236 kw_1_24 kw_2_237 rfl rfl pd_J7_fill_53178 ⟨(Nat.le_of_ble_eq_true rfl), (Nat.le_of_ble_eq_true rfl)⟩ dX4_run_5 rfl (Nat.le_of_ble_eq_true rfl) ⟨(Nat.le_of_ble_eq_true rfl), (Nat.le_of_ble_eq_true rfl)⟩ rfl (fun u5 h => ?_)
  refine a_aload_n C dX4_run_8 rfl 0 rfl rfl ?_
  refine a_iconst (v := 0) C dX4_run_9 (by decide) rfl ?_
  refine s_4_4 C dX4_run_10 ho kw_2_67 rfl ?_
  refine a_iconst (v := 0) C dX4_run_13 (by decide) rfl ?_
  refine a_istore_n (lv' := [(0, .ref (L o)), (1, .ref (L a1)), (2, .ref (L a2)), (3, .int 0)]) C dX4_run_14 rfl (by decide) [1, 2, 3, 0] rfl rfl ?_
  obtain ⟨n9, h⟩ := h
  exact c_X4_run_15 C hr hlocks hE ho ha1 ha2  n9 (ms_sI u5 o 4 0) 0  h
