/-! CensusWalk$Streets.has(I)Z -/
theorem pd_X5_has : (⟨"CensusWalk$Streets", "has", "(I)Z"⟩ : MethodName).cls = "CensusWalk$Streets" ∧ (⟨"CensusWalk$Streets", "has", "(I)Z"⟩ : MethodName).cls ≠ "java/lang/invoke/MethodHandle" ∧ (⟨"CensusWalk$Streets", "has", "(I)Z"⟩ : MethodName).cls ≠ "java/lang/invoke/VarHandle" ∧ (parseMethodDescriptor (⟨"CensusWalk$Streets", "has", "(I)Z"⟩ : MethodName).desc).map (fun d => d.parameters.length) = some 1 := by decide +kernel
def wp_X5_has_17 (E : ms_En) (o : Nat) (a1 : Int32) (post : Int32 → ms_St → Prop)  (u : ms_St) (z0 : Int32) : Prop := (z0 = 0 ∨ z0 = 1) ∧ (post z0 u)
set_option maxHeartbeats 4000000 in
set_option maxRecDepth 100000 in
theorem c_X5_has_17 {p : Program} {l : Launch} {e : Env} {s : State} {m : MethodId} {args : Array Value} {below : List Frame} {meth : Method} {c : Code} {G : va_G} {cy : Nat → ClassId} {A : Nat → Prop} {L : Nat → Nat} {E : ms_En} (C : ms_Cx p m c cX5_has 2 s args (Cond.code ⟨"CensusWalk$Streets", "has", "(I)Z"⟩ prog_7_method_2_code 2 (some .boolean)) "CensusWalk$Streets" G cy A) (hr : meth.sig.returnType = (some .boolean)) (hlocks : meth.locks = false) (hE : ms_WT E) {o : Nat} {a1 : Int32} {post : Int32 → ms_St → Prop}  (ho : ms_is E o 5)  (u : ms_St) (z0 : Int32)  (h : wp_X5_has_17 E o a1 post u z0) : ms_At p l e ({ frames := 0, cells := 0, slots := 0, locals := 0 } : Room) s m args below meth c 2 G cy A L 0 0 (ms_QI below args s G cy L E A post 0 0) E u 17 [] [.int z0] := by
  unfold wp_X5_has_17 at h
  obtain ⟨q17, h⟩ := h
  exact a_zret C dX5_has_17 hr hlocks (Nat.le_of_ble_eq_true rfl) (Nat.le_of_ble_eq_true rfl) (ms_nz q17) h
def wp_X5_has_16 (E : ms_En) (o : Nat) (a1 : Int32) (post : Int32 → ms_St → Prop)  (u : ms_St)  : Prop := wp_X5_has_17 E o a1 post u 0
set_option maxHeartbeats 4000000 in
set_option maxRecDepth 100000 in
theorem c_X5_has_16 {p : Program} {l : Launch} {e : Env} {s : State} {m : MethodId} {args : Array Value} {below : List Frame} {meth : Method} {c : Code} {G : va_G} {cy : Nat → ClassId} {A : Nat → Prop} {L : Nat → Nat} {E : ms_En} (C : ms_Cx p m c cX5_has 2 s args (Cond.code ⟨"CensusWalk$Streets", "has", "(I)Z"⟩ prog_7_method_2_code 2 (some .boolean)) "CensusWalk$Streets" G cy A) (hr : meth.sig.returnType = (some .boolean)) (hlocks : meth.locks = false) (hE : ms_WT E) {o : Nat} {a1 : Int32} {post : Int32 → ms_St → Prop}  (ho : ms_is E o 5)  (u : ms_St)   (h : wp_X5_has_16 E o a1 post u ) : ms_At p l e ({ frames := 0, cells := 0, slots := 0, locals := 0 } : Room) s m args below meth c 2 G cy A L 0 0 (ms_QI below args s G cy L E A post 0 0) E u 16 [] [] := by
  unfold wp_X5_has_16 at h
  refine a_iconst (v := 0) C dX5_has_16 (by decide) rfl ?_
  exact c_X5_has_17 C hr hlocks hE ho  u 0  h
def wp_X5_has (E : ms_En) (u : ms_St) (o : Nat) (a1 : Int32) (post : Int32 → ms_St → Prop) : Prop := (a1 < 0 → wp_X5_has_16 E o a1 post u) ∧ (¬ a1 < 0 → ((ms_I u o 0) ≤ a1 → wp_X5_has_16 E o a1 post u) ∧ (¬ (ms_I u o 0) ≤ a1 → wp_X5_has_17 E o a1 post u 1))
set_option maxHeartbeats 4000000 in
set_option maxRecDepth 100000 in
theorem c_X5_has (l : Launch) (G : va_G) (cy : Nat → ClassId) (L : Nat → Nat) (E : ms_En) (hE : ms_WT E) (u : ms_St) (o : Nat) (a1 : Int32) (ho : ms_is E o 5) (post : Int32 → ms_St → Prop) (h : wp_X5_has E u o a1 post) : ms_MetI l ⟨"CensusWalk$Streets", "has", "(I)Z"⟩ (Cond.code ⟨"CensusWalk$Streets", "has", "(I)Z"⟩ prog_7_method_2_code 2 (some .boolean) :: lw_g) ({ frames := 0, cells := 0, slots := 0, locals := 0 } : Room) G cy L E [.ref (L o), .int a1] u post 0 0 := by
  refine ms_enterI (lv := [(0, .ref (L o)), (1, .int a1)]) (by decide) (Nat.le_of_ble_eq_true rfl) rfl ?_
  intro p e s m args below meth c A C hr hlocks
  unfold wp_X5_has at h
  refine a_iload_n C dX5_has_0 rfl 1 rfl rfl ?_
  refine a_if_lt (tgt := 16) C dX5_has_1 (by decide) rfl (fun hc => ?_) (fun hc => ?_)
  · replace h := h.1 hc
    refine a_sub (lv' := []) [] rfl ?_
    exact c_X5_has_16 C hr hlocks hE ho  u  h
  · replace h := h.2 hc
    refine a_iload_n C dX5_has_4 rfl 1 rfl rfl ?_
    refine a_aload_n C dX5_has_5 rfl 0 rfl rfl ?_
    refine g_5_0 C dX5_has_6 ho kw_1_47 rfl ?_
    refine a_icmp_ge (tgt := 16) C dX5_has_9 (by decide) rfl (fun hc => ?_) (fun hc => ?_)
    · replace h := h.1 hc
      refine a_sub (lv' := []) [] rfl ?_
      exact c_X5_has_16 C hr hlocks hE ho  u  h
    · replace h := h.2 hc
      refine a_iconst (v := 1) C dX5_has_12 (by decide) rfl ?_
      refine a_goto (tgt := 17) C dX5_has_13 (by decide) ?_
      refine a_sub (lv' := []) [] rfl ?_
      exact c_X5_has_17 C hr hlocks hE ho  u 1  h

/-! CensusWalk$Streets.add(III)V -/
theorem pd_X5_add : (⟨"CensusWalk$Streets", "add", "(III)V"⟩ : MethodName).cls = "CensusWalk$Streets" ∧ (⟨"CensusWalk$Streets", "add", "(III)V"⟩ : MethodName).cls ≠ "java/lang/invoke/MethodHandle" ∧ (⟨"CensusWalk$Streets", "add", "(III)V"⟩ : MethodName).cls ≠ "java/lang/invoke/VarHandle" ∧ (parseMethodDescriptor (⟨"CensusWalk$Streets", "add", "(III)V"⟩ : MethodName).desc).map (fun d => d.parameters.length) = some 3 := by decide +kernel
def wp_X5_add_59 (E : ms_En) (o : Nat) (a1 : Int32) (a2 : Int32) (a3 : Int32) (post : ms_St → Prop)  (u : ms_St)  : Prop := post u
set_option maxHeartbeats 4000000 in
set_option maxRecDepth 100000 in
theorem c_X5_add_59 {p : Program} {l : Launch} {e : Env} {s : State} {m : MethodId} {args : Array Value} {below : List Frame} {meth : Method} {c : Code} {G : va_G} {cy : Nat → ClassId} {A : Nat → Prop} {L : Nat → Nat} {E : ms_En} (C : ms_Cx p m c cX5_add 4 s args (Cond.code ⟨"CensusWalk$Streets", "add", "(III)V"⟩ prog_7_method_3_code 4 none) "CensusWalk$Streets" G cy A) (hr : meth.sig.returnType = none) (hlocks : meth.locks = false) (hE : ms_WT E) {o : Nat} {a1 : Int32} {a2 : Int32} {a3 : Int32} {post : ms_St → Prop}  (ho : ms_is E o 5)  (u : ms_St)   (h : wp_X5_add_59 E o a1 a2 a3 post u ) : ms_At p l e ({ frames := 0, cells := 0, slots := 0, locals := 0 } : Room) s m args below meth c 4 G cy A L 0 0 (ms_QV below args s G cy L E A post 0 0) E u 59 [] [] := by
  unfold wp_X5_add_59 at h
  exact a_vret C dX5_add_59 hr hlocks (Nat.le_of_ble_eq_true rfl) (Nat.le_of_ble_eq_true rfl) h
def wp_X5_add (E : ms_En) (u : ms_St) (o : Nat) (a1 : Int32) (a2 : Int32) (a3 : Int32) (post : ms_St → Prop) : Prop := (12 ≤ (ms_I u o 0) → wp_X5_add_59 E o a1 a2 a3 post u) ∧ (¬ 12 ≤ (ms_I u o 0) → vp_in (ms_I u o 0) 12 ∧ (vp_in (ms_I (ms_sI u (ms_at E o 1) (Int32.toNatClampNeg (ms_I u o 0)) a1) o 0) 12 ∧ (∀ w28 : ms_St, w28 = (ms_sI (ms_sI u (ms_at E o 1) (Int32.toNatClampNeg (ms_I u o 0)) a1) (ms_at E o 2) (Int32.toNatClampNeg (ms_I (ms_sI u (ms_at E o 1) (Int32.toNatClampNeg (ms_I u o 0)) a1) o 0)) a2) → (vp_in (ms_I w28 o 0) 12 ∧ (vp_in (ms_I (ms_sI w28 (ms_at E o 3) (Int32.toNatClampNeg (ms_I w28 o 0)) a3) o 0) 12 ∧ (∀ w48 : ms_St, w48 = (ms_sI (ms_sI w28 (ms_at E o 3) (Int32.toNatClampNeg (ms_I w28 o 0)) a3) (ms_at E o 4) (Int32.toNatClampNeg (ms_I (ms_sI w28 (ms_at E o 3) (Int32.toNatClampNeg (ms_I w28 o 0)) a3) o 0)) (vp_nar .boolean 1)) → (wp_X5_add_59 E o a1 a2 a3 post (ms_sI w48 o 0 ((ms_I w48 o 0) + 1)))))))))
set_option maxHeartbeats 4000000 in
set_option maxRecDepth 100000 in
theorem c_X5_add (l : Launch) (G : va_G) (cy : Nat → ClassId) (L : Nat → Nat) (E : ms_En) (hE : ms_WT E) (u : ms_St) (o : Nat) (a1 : Int32) (a2 : Int32) (a3 : Int32) (ho : ms_is E o 5) (post : ms_St → Prop) (h : wp_X5_add E u o a1 a2 a3 post) : ms_MetV l ⟨"CensusWalk$Streets", "add", "(III)V"⟩ (Cond.code ⟨"CensusWalk$Streets", "add", "(III)V"⟩ prog_7_method_3_code 4 none :: lw_g) ({ frames := 0, cells := 0, slots := 0, locals := 0 } : Room) G cy L E [.ref (L o), .int a1, .int a2, .int a3] u post 0 0 := by
  refine ms_enterV (lv := [(0, .ref (L o)), (1, .int a1), (2, .int a2), (3, .int a3)]) (by decide) (Nat.le_of_ble_eq_true rfl) rfl ?_
  intro p e s m args below meth c A C hr hlocks
  unfold wp_X5_add at h
  refine a_aload_n C dX5_add_0 rfl 0 rfl rfl ?_
  refine g_5_0 C dX5_add_1 ho kw_1_47 rfl ?_
  refine a_bipush (v := 12) C dX5_add_4 (by decide) rfl ?_
  refine a_icmp_ge (tgt := 59) C dX5_add_6 (by decide) rfl (fun hc => ?_) (fun hc => ?_)
  · replace h := h.1 hc
    refine a_sub (lv' := []) [] rfl ?_
    exact c_X5_add_59 C hr hlocks hE ho  u  h
  · replace h := h.2 hc
    refine a_aload_n C dX5_add_9 rfl 0 rfl rfl ?_
    refine g_5_1 C hE dX5_add_10 ho kw_1_52 rfl ?_
    have k10 : ms_is E (ms_at E o 1) 13 := ms_wt hE ho rfl (by decide)
    have n10 : ms_N E (ms_at E o 1) = 12 := ms_wl hE ho (by decide) (by decide) rfl
    refine a_aload_n C dX5_add_13 rfl 0 rfl rfl ?_
    refine g_5_0 C dX5_add_14 ho kw_1_47 rfl ?_
    refine a_iload_n C dX5_add_17 rfl 1 rfl rfl ?_
    obtain ⟨q18, h⟩ := h
    refine a_iast C dX5_add_18 k10 n10 q18 rfl ?_
    refine a_aload_n C dX5_add_19 rfl 0 rfl rfl ?_
    refine g_5_2 C hE dX5_add_20 ho kw_1_54 rfl ?_
    have k20 : ms_is E (ms_at E o 2) 13 := ms_wt hE ho rfl (by decide)
    have n20 : ms_N E (ms_at E o 2) = 12 := ms_wl hE ho (by decide) (by decide) rfl
    refine a_aload_n C dX5_add_23 rfl 0 rfl rfl ?_
    refine g_5_0 C dX5_add_24 ho kw_1_47 rfl ?_
    refine a_iload_n C dX5_add_27 rfl 2 rfl rfl ?_
    obtain ⟨q28, h⟩ := h
    refine a_iast C dX5_add_28 k20 n20 q28 rfl ?_
    refine a_nmU (fun w28 e28 => ?_)
    replace h := h w28 e28
    refine a_aload_n C dX5_add_29 rfl 0 rfl rfl ?_
    refine g_5_3 C hE dX5_add_30 ho kw_1_56 rfl ?_
    have k30 : ms_is E (ms_at E o 3) 13 := ms_wt hE ho rfl (by decide)
    have n30 : ms_N E (ms_at E o 3) = 12 := ms_wl hE ho (by decide) (by decide) rfl
    refine a_aload_n C dX5_add_33 rfl 0 rfl rfl ?_
    refine g_5_0 C dX5_add_34 ho kw_1_47 rfl ?_
    refine a_iload_n C dX5_add_37 rfl 3 rfl rfl ?_
    obtain ⟨q38, h⟩ := h
    refine a_iast C dX5_add_38 k30 n30 q38 rfl ?_
    refine a_aload_n C dX5_add_39 rfl 0 rfl rfl ?_
    refine g_5_4 C hE dX5_add_40 ho kw_1_59 rfl ?_
    have k40 : ms_is E (ms_at E o 4) 15 := ms_wt hE ho rfl (by decide)
    have n40 : ms_N E (ms_at E o 4) = 12 := ms_wl hE ho (by decide) (by decide) rfl
    refine a_aload_n C dX5_add_43 rfl 0 rfl rfl ?_
    refine g_5_0 C dX5_add_44 ho kw_1_47 rfl ?_
    refine a_iconst (v := 1) C dX5_add_47 (by decide) rfl ?_
    obtain ⟨q48, h⟩ := h
    refine a_zast C dX5_add_48 k40 n40 q48 rfl ?_
    refine a_nmU (fun w48 e48 => ?_)
    replace h := h w48 e48
    refine a_aload_n C dX5_add_49 rfl 0 rfl rfl ?_
    refine a_dup C dX5_add_50 rfl rfl ?_
    refine g_5_0 C dX5_add_51 ho kw_1_47 rfl ?_
    refine a_iconst (v := 1) C dX5_add_54 (by decide) rfl ?_
    refine a_iadd C dX5_add_55 rfl ?_
    refine s_5_0 C dX5_add_56 ho kw_1_47 rfl ?_
    refine a_sub (lv' := []) [] rfl ?_
    exact c_X5_add_59 C hr hlocks hE ho  (ms_sI w48 o 0 ((ms_I w48 o 0) + 1))  h

/-! CensusWalk$Streets.copyFrom(LCensusWalk$Streets;)V -/
theorem pd_X5_copyFrom : (⟨"CensusWalk$Streets", "copyFrom", "(LCensusWalk$Streets;)V"⟩ : MethodName).cls = "CensusWalk$Streets" ∧ (⟨"CensusWalk$Streets", "copyFrom", "(LCensusWalk$Streets;)V"⟩ : MethodName).cls ≠ "java/lang/invoke/MethodHandle" ∧ (⟨"CensusWalk$Streets", "copyFrom", "(LCensusWalk$Streets;)V"⟩ : MethodName).cls ≠ "java/lang/invoke/VarHandle" ∧ (parseMethodDescriptor (⟨"CensusWalk$Streets", "copyFrom", "(LCensusWalk$Streets;)V"⟩ : MethodName).desc).map (fun d => d.parameters.length) = some 1 := by decide +kernel
def wp_X5_copyFrom_55 (E : ms_En) (o : Nat) (a1 : Nat) (post : ms_St → Prop)  : Nat → ms_St → Int32 → Prop
  | 0 => fun _ _ => False
  | n + 1 => fun u x2 => (12 ≤ x2 → post u) ∧ (¬ 12 ≤ x2 → vp_in x2 12 ∧ (vp_in x2 12 ∧ (∀ w72 : ms_St, w72 = (ms_sI u (ms_at E o 4) (Int32.toNatClampNeg x2) (vp_nar .boolean (ms_I u (ms_at E a1 4) (Int32.toNatClampNeg x2)))) → (wp_X5_copyFrom_55 E o a1 post n w72 (x2 + 1)))))
set_option maxHeartbeats 4000000 in
set_option maxRecDepth 100000 in
theorem c_X5_copyFrom_55 {p : Program} {l : Launch} {e : Env} {s : State} {m : MethodId} {args : Array Value} {below : List Frame} {meth : Method} {c : Code} {G : va_G} {cy : Nat → ClassId} {A : Nat → Prop} {L : Nat → Nat} {E : ms_En} (C : ms_Cx p m c cX5_copyFrom 3 s args (Cond.code ⟨"CensusWalk$Streets", "copyFrom", "(LCensusWalk$Streets;)V"⟩ prog_7_method_4_code 3 none) "CensusWalk$Streets" G cy A) (hr : meth.sig.returnType = none) (hlocks : meth.locks = false) (hE : ms_WT E) {o : Nat} {a1 : Nat} {post : ms_St → Prop}  (ho : ms_is E o 5) (ha1 : ms_is E a1 5)  : ∀ (n : Nat) (u : ms_St) (x2 : Int32), wp_X5_copyFrom_55 E o a1 post n u x2 → ms_At p l e ({ frames := 1, cells := 0, slots := 0, locals := 60 } : Room) s m args below meth c 3 G cy A L 0 0 (ms_QV below args s G cy L E A post 0 0) E u 55 [(0, .ref (L o)), (1, .ref (L a1)), (2, .int x2)] [] := by
  intro n
  induction n with
  | zero =>
    intro u x2  h
    exact absurd h id
  | succ n ih =>
    intro u x2  h
    unfold wp_X5_copyFrom_55 at h
    refine a_iload_n C dX5_copyFrom_55 rfl 2 rfl rfl ?_
    refine a_bipush (v := 12) C dX5_copyFrom_56 (by decide) rfl ?_
    refine a_icmp_ge (tgt := 79) C dX5_copyFrom_58 (by decide) rfl (fun hc => ?_) (fun hc => ?_)
    · replace h := h.1 hc
      exact a_vret C dX5_copyFrom_79 hr hlocks (Nat.le_of_ble_eq_true rfl) (Nat.le_of_ble_eq_true rfl) h
    · replace h := h.2 hc
      refine a_aload_n C dX5_copyFrom_61 rfl 0 rfl rfl ?_
      refine g_5_4 C hE dX5_copyFrom_62 ho kw_1_59 rfl ?_
      have k62 : ms_is E (ms_at E o 4) 15 := ms_wt hE ho rfl (by decide)
      have n62 : ms_N E (ms_at E o 4) = 12 := ms_wl hE ho (by decide) (by decide) rfl
      refine a_iload_n C dX5_copyFrom_65 rfl 2 rfl rfl ?_
      refine a_aload_n C dX5_copyFrom_66 rfl 1 rfl rfl ?_
      refine g_5_4 C hE dX5_copyFrom_67 ha1 kw_1_59 rfl ?_
      have k67 : ms_is E (ms_at E a1 4) 15 := ms_wt hE ha1 rfl (by decide)
      have n67 : ms_N E (ms_at E a1 4) = 12 := ms_wl hE ha1 (by decide) (by decide) rfl
      refine a_iload_n C dX5_copyFrom_70 rfl 2 rfl rfl ?_
      obtain ⟨q71, h⟩ := h
      refine a_zald C dX5_copyFrom_71 k67 n67 q71 rfl ?_
      obtain ⟨q72, h⟩ := h
      refine a_zast C dX5_copyFrom_72 k62 n62 q72 rfl ?_
      refine a_nmU (fun w72 e72 => ?_)
      replace h := h w72 e72
      refine a_iinc (lv' := [(0, .ref (L o)), (1, .ref (L a1)), (2, .int (x2 + 1))]) (v := (x2 + 1)) C dX5_copyFrom_73 2 rfl (congrArg (fun z => x2 + z) (by decide)) (by decide) [1, 2, 0] rfl rfl ?_
      refine a_goto (tgt := 55) C dX5_copyFrom_76 (by decide) ?_
      exact ih w72 (x2 + 1)  h
def wp_X5_copyFrom (E : ms_En) (u : ms_St) (o : Nat) (a1 : Nat) (post : ms_St → Prop) : Prop := ∀ w20 : ms_St, w20 = (ms_sA (ms_sI u o 0 (ms_I u a1 0)) (ms_at E o 1) (va_cpy (ms_I (ms_sI u o 0 (ms_I u a1 0)) (ms_at E a1 1)) (ms_I (ms_sI u o 0 (ms_I u a1 0)) (ms_at E o 1)) 0 0 12)) → (∀ w35 : ms_St, w35 = (ms_sA w20 (ms_at E o 2) (va_cpy (ms_I w20 (ms_at E a1 2)) (ms_I w20 (ms_at E o 2)) 0 0 12)) → (∀ w50 : ms_St, w50 = (ms_sA w35 (ms_at E o 3) (va_cpy (ms_I w35 (ms_at E a1 3)) (ms_I w35 (ms_at E o 3)) 0 0 12)) → (∃ n55, wp_X5_copyFrom_55 E o a1 post n55 w50 0)))
set_option maxHeartbeats 4000000 in
set_option maxRecDepth 100000 in
theorem c_X5_copyFrom (l : Launch) (G : va_G) (cy : Nat → ClassId) (L : Nat → Nat) (E : ms_En) (hE : ms_WT E) (u : ms_St) (o : Nat) (a1 : Nat) (ho : ms_is E o 5) (ha1 : ms_is E a1 5) (post : ms_St → Prop) (h : wp_X5_copyFrom E u o a1 post) : ms_MetV l ⟨"CensusWalk$Streets", "copyFrom", "(LCensusWalk$Streets;)V"⟩ (Cond.code ⟨"CensusWalk$Streets", "copyFrom", "(LCensusWalk$Streets;)V"⟩ prog_7_method_4_code 3 none :: lw_g) ({ frames := 1, cells := 0, slots := 0, locals := 60 } : Room) G cy L E [.ref (L o), .ref (L a1)] u post 0 0 := by
  refine ms_enterV (lv := [(0, .ref (L o)), (1, .ref (L a1))]) (by decide) (Nat.le_of_ble_eq_true rfl) rfl ?_
  intro p e s m args below meth c A C hr hlocks
  unfold wp_X5_copyFrom at h
  refine a_aload_n C dX5_copyFrom_0 rfl 0 rfl rfl ?_
  refine a_aload_n C dX5_copyFrom_1 rfl 1 rfl rfl ?_
  refine g_5_0 C dX5_copyFrom_2 ha1 kw_1_47 rfl ?_
  refine s_5_0 C dX5_copyFrom_5 ho kw_1_47 rfl ?_
  refine a_aload_n C dX5_copyFrom_8 rfl 1 rfl rfl ?_
  refine g_5_1 C hE dX5_copyFrom_9 ha1 kw_1_52 rfl ?_
  have k9 : ms_is E (ms_at E a1 1) 13 := ms_wt hE ha1 rfl (by decide)
  have n9 : ms_N E (ms_at E a1 1) = 12 := ms_wl hE ha1 (by decide) (by decide) rfl
  refine a_iconst (v := 0) C dX5_copyFrom_12 (by decide) rfl ?_
  refine a_aload_n C dX5_copyFrom_13 rfl 0 rfl rfl ?_
  refine g_5_1 C hE dX5_copyFrom_14 ho kw_1_52 rfl ?_
  have k14 : ms_is E (ms_at E o 1) 13 := ms_wt hE ho rfl (by decide)
  have n14 : ms_N E (ms_at E o 1) = 12 := ms_wl hE ho (by decide) (by decide) rfl
  refine a_iconst (v := 0) C dX5_copyFrom_17 (by decide) rfl ?_
  refine a_bipush (v := 12) C dX5_copyFrom_18 (by decide) rfl ?_
  have q20 : ¬ (0 : Int32) < 0 ∧ ¬ (0 : Int32) < 0 ∧ ¬ (12 : Int32) < 0 ∧ (0 : Int32).toNatClampNeg + (12 : Int32).toNatClampNeg ≤ 12 ∧ (0 : Int32).toNatClampNeg + (12 : Int32).toNatClampNeg ≤ 12 := by decide
  refine a_copyi C dX5_copyFrom_20 k9 k14 n9 n14 kw_3_106 kw_3_108 kw_3_107 kw_1_22 q20.1 q20.2.1 q20.2.2.1 q20.2.2.2.1 q20.2.2.2.2 (Nat.le_of_ble_eq_true rfl) (Nat.le_of_ble_eq_true rfl) rfl ?_
  refine a_nmU (fun w20 e20 => ?_)
  replace h := h w20 e20
  refine a_aload_n C dX5_copyFrom_23 rfl 1 rfl rfl ?_
  refine g_5_2 C hE dX5_copyFrom_24 ha1 kw_1_54 rfl ?_
  have k24 : ms_is E (ms_at E a1 2) 13 := ms_wt hE ha1 rfl (by decide)
  have n24 : ms_N E (ms_at E a1 2) = 12 := ms_wl hE ha1 (by decide) (by decide) rfl
  refine a_iconst (v := 0) C dX5_copyFrom_27 (by decide) rfl ?_
  refine a_aload_n C dX5_copyFrom_28 rfl 0 rfl rfl ?_
  refine g_5_2 C hE dX5_copyFrom_29 ho kw_1_54 rfl ?_
  have k29 : ms_is E (ms_at E o 2) 13 := ms_wt hE ho rfl (by decide)
  have n29 : ms_N E (ms_at E o 2) = 12 := ms_wl hE ho (by decide) (by decide) rfl
  refine a_iconst (v := 0) C dX5_copyFrom_32 (by decide) rfl ?_
  refine a_bipush (v := 12) C dX5_copyFrom_33 (by decide) rfl ?_
  have q35 : ¬ (0 : Int32) < 0 ∧ ¬ (0 : Int32) < 0 ∧ ¬ (12 : Int32) < 0 ∧ (0 : Int32).toNatClampNeg + (12 : Int32).toNatClampNeg ≤ 12 ∧ (0 : Int32).toNatClampNeg + (12 : Int32).toNatClampNeg ≤ 12 := by decide
  refine a_copyi C dX5_copyFrom_35 k24 k29 n24 n29 kw_3_106 kw_3_108 kw_3_107 kw_1_22 q35.1 q35.2.1 q35.2.2.1 q35.2.2.2.1 q35.2.2.2.2 (Nat.le_of_ble_eq_true rfl) (Nat.le_of_ble_eq_true rfl) rfl ?_
  refine a_nmU (fun w35 e35 => ?_)
  replace h := h w35 e35
  refine a_aload_n C dX5_copyFrom_38 rfl 1 rfl rfl ?_
  refine g_5_3 C hE dX5_copyFrom_39 ha1 kw_1_56 rfl ?_
  have k39 : ms_is E (ms_at E a1 3) 13 := ms_wt hE ha1 rfl (by decide)
  have n39 : ms_N E (ms_at E a1 3) = 12 := ms_wl hE ha1 (by decide) (by decide) rfl
  refine a_iconst (v := 0) C dX5_copyFrom_42 (by decide) rfl ?_
  refine a_aload_n C dX5_copyFrom_43 rfl 0 rfl rfl ?_
  refine g_5_3 C hE dX5_copyFrom_44 ho kw_1_56 rfl ?_
  have k44 : ms_is E (ms_at E o 3) 13 := ms_wt hE ho rfl (by decide)
  have n44 : ms_N E (ms_at E o 3) = 12 := ms_wl hE ho (by decide) (by decide) rfl
  refine a_iconst (v := 0) C dX5_copyFrom_47 (by decide) rfl ?_
  refine a_bipush (v := 12) C dX5_copyFrom_48 (by decide) rfl ?_
  have q50 : ¬ (0 : Int32) < 0 ∧ ¬ (0 : Int32) < 0 ∧ ¬ (12 : Int32) < 0 ∧ (0 : Int32).toNatClampNeg + (12 : Int32).toNatClampNeg ≤ 12 ∧ (0 : Int32).toNatClampNeg + (12 : Int32).toNatClampNeg ≤ 12 := by decide
  refine a_copyi C dX5_copyFrom_50 k39 k44 n39 n44 kw_3_106 kw_3_108 kw_3_107 kw_1_22 q50.1 q50.2.1 q50.2.2.1 q50.2.2.2.1 q50.2.2.2.2 (Nat.le_of_ble_eq_true rfl) (Nat.le_of_ble_eq_true rfl) rfl ?_
  refine a_nmU (fun w50 e50 => ?_)
  replace h := h w50 e50
  refine a_iconst (v := 0) C dX5_copyFrom_53 (by decide) rfl ?_
  refine a_istore_n (lv' := [(0, .ref (L o)), (1, .ref (L a1)), (2, .int 0)]) C dX5_copyFrom_54 rfl (by decide) [1, 2, 0] rfl rfl ?_
  obtain ⟨n9, h⟩ := h
  exact c_X5_copyFrom_55 C hr hlocks hE ho ha1  n9 w50 0  h

/-! CensusWalk$Walkers.has(I)Z -/
theorem pd_X9_has : (⟨"CensusWalk$Walkers", "has", "(I)Z"⟩ : MethodName).cls = "CensusWalk$Walkers" ∧ (⟨"CensusWalk$Walkers", "has", "(I)Z"⟩ : MethodName).cls ≠ "java/lang/invoke/MethodHandle" ∧ (⟨"CensusWalk$Walkers", "has", "(I)Z"⟩ : MethodName).cls ≠ "java/lang/invoke/VarHandle" ∧ (parseMethodDescriptor (⟨"CensusWalk$Walkers", "has", "(I)Z"⟩ : MethodName).desc).map (fun d => d.parameters.length) = some 1 := by decide +kernel
def wp_X9_has_17 (E : ms_En) (o : Nat) (a1 : Int32) (post : Int32 → ms_St → Prop)  (u : ms_St) (z0 : Int32) : Prop := (z0 = 0 ∨ z0 = 1) ∧ (post z0 u)
set_option maxHeartbeats 4000000 in
set_option maxRecDepth 100000 in
theorem c_X9_has_17 {p : Program} {l : Launch} {e : Env} {s : State} {m : MethodId} {args : Array Value} {below : List Frame} {meth : Method} {c : Code} {G : va_G} {cy : Nat → ClassId} {A : Nat → Prop} {L : Nat → Nat} {E : ms_En} (C : ms_Cx p m c cX9_has 2 s args (Cond.code ⟨"CensusWalk$Walkers", "has", "(I)Z"⟩ prog_11_method_2_code 2 (some .boolean)) "CensusWalk$Walkers" G cy A) (hr : meth.sig.returnType = (some .boolean)) (hlocks : meth.locks = false) (hE : ms_WT E) {o : Nat} {a1 : Int32} {post : Int32 → ms_St → Prop}  (ho : ms_is E o 9)  (u : ms_St) (z0 : Int32)  (h : wp_X9_has_17 E o a1 post u z0) : ms_At p l e ({ frames := 0, cells := 0, slots := 0, locals := 0 } : Room) s m args below meth c 2 G cy A L 0 0 (ms_QI below args s G cy L E A post 0 0) E u 17 [] [.int z0] := by
  unfold wp_X9_has_17 at h
  obtain ⟨q17, h⟩ := h
  exact a_zret C dX9_has_17 hr hlocks (Nat.le_of_ble_eq_true rfl) (Nat.le_of_ble_eq_true rfl) (ms_nz q17) h
def wp_X9_has_16 (E : ms_En) (o : Nat) (a1 : Int32) (post : Int32 → ms_St → Prop)  (u : ms_St)  : Prop := wp_X9_has_17 E o a1 post u 0
set_option maxHeartbeats 4000000 in
set_option maxRecDepth 100000 in
theorem c_X9_has_16 {p : Program} {l : Launch} {e : Env} {s : State} {m : MethodId} {args : Array Value} {below : List Frame} {meth : Method} {c : Code} {G : va_G} {cy : Nat → ClassId} {A : Nat → Prop} {L : Nat → Nat} {E : ms_En} (C : ms_Cx p m c cX9_has 2 s args (Cond.code ⟨"CensusWalk$Walkers", "has", "(I)Z"⟩ prog_11_method_2_code 2 (some .boolean)) "CensusWalk$Walkers" G cy A) (hr : meth.sig.returnType = (some .boolean)) (hlocks : meth.locks = false) (hE : ms_WT E) {o : Nat} {a1 : Int32} {post : Int32 → ms_St → Prop}  (ho : ms_is E o 9)  (u : ms_St)   (h : wp_X9_has_16 E o a1 post u ) : ms_At p l e ({ frames := 0, cells := 0, slots := 0, locals := 0 } : Room) s m args below meth c 2 G cy A L 0 0 (ms_QI below args s G cy L E A post 0 0) E u 16 [] [] := by
  unfold wp_X9_has_16 at h
  refine a_iconst (v := 0) C dX9_has_16 (by decide) rfl ?_
  exact c_X9_has_17 C hr hlocks hE ho  u 0  h
def wp_X9_has (E : ms_En) (u : ms_St) (o : Nat) (a1 : Int32) (post : Int32 → ms_St → Prop) : Prop := (a1 < 0 → wp_X9_has_16 E o a1 post u) ∧ (¬ a1 < 0 → ((ms_I u o 0) ≤ a1 → wp_X9_has_16 E o a1 post u) ∧ (¬ (ms_I u o 0) ≤ a1 → wp_X9_has_17 E o a1 post u 1))
set_option maxHeartbeats 4000000 in
set_option maxRecDepth 100000 in
theorem c_X9_has (l : Launch) (G : va_G) (cy : Nat → ClassId) (L : Nat → Nat) (E : ms_En) (hE : ms_WT E) (u : ms_St) (o : Nat) (a1 : Int32) (ho : ms_is E o 9) (post : Int32 → ms_St → Prop) (h : wp_X9_has E u o a1 post) : ms_MetI l ⟨"CensusWalk$Walkers", "has", "(I)Z"⟩ (Cond.code ⟨"CensusWalk$Walkers", "has", "(I)Z"⟩ prog_11_method_2_code 2 (some .boolean) :: lw_g) ({ frames := 0, cells := 0, slots := 0, locals := 0 } : Room) G cy L E [.ref (L o), .int a1] u post 0 0 := by
  refine ms_enterI (lv := [(0, .ref (L o)), (1, .int a1)]) (by decide) (Nat.le_of_ble_eq_true rfl) rfl ?_
  intro p e s m args below meth c A C hr hlocks
  unfold wp_X9_has at h
  refine a_iload_n C dX9_has_0 rfl 1 rfl rfl ?_
  refine a_if_lt (tgt := 16) C dX9_has_1 (by decide) rfl (fun hc => ?_) (fun hc => ?_)
  · replace h := h.1 hc
    refine a_sub (lv' := []) [] rfl ?_
    exact c_X9_has_16 C hr hlocks hE ho  u  h
  · replace h := h.2 hc
    refine a_iload_n C dX9_has_4 rfl 1 rfl rfl ?_
    refine a_aload_n C dX9_has_5 rfl 0 rfl rfl ?_
    refine g_9_0 C dX9_has_6 ho kw_1_137 rfl ?_
    refine a_icmp_ge (tgt := 16) C dX9_has_9 (by decide) rfl (fun hc => ?_) (fun hc => ?_)
    · replace h := h.1 hc
      refine a_sub (lv' := []) [] rfl ?_
      exact c_X9_has_16 C hr hlocks hE ho  u  h
    · replace h := h.2 hc
      refine a_iconst (v := 1) C dX9_has_12 (by decide) rfl ?_
      refine a_goto (tgt := 17) C dX9_has_13 (by decide) ?_
      refine a_sub (lv' := []) [] rfl ?_
      exact c_X9_has_17 C hr hlocks hE ho  u 1  h

/-! CensusWalk$Walkers.add(II)V -/
theorem pd_X9_add : (⟨"CensusWalk$Walkers", "add", "(II)V"⟩ : MethodName).cls = "CensusWalk$Walkers" ∧ (⟨"CensusWalk$Walkers", "add", "(II)V"⟩ : MethodName).cls ≠ "java/lang/invoke/MethodHandle" ∧ (⟨"CensusWalk$Walkers", "add", "(II)V"⟩ : MethodName).cls ≠ "java/lang/invoke/VarHandle" ∧ (parseMethodDescriptor (⟨"CensusWalk$Walkers", "add", "(II)V"⟩ : MethodName).desc).map (fun d => d.parameters.length) = some 2 := by decide +kernel
def wp_X9_add_48 (E : ms_En) (o : Nat) (a1 : Int32) (a2 : Int32) (post : ms_St → Prop)  (u : ms_St)  : Prop := post u
set_option maxHeartbeats 4000000 in
set_option maxRecDepth 100000 in
theorem c_X9_add_48 {p : Program} {l : Launch} {e : Env} {s : State} {m : MethodId} {args : Array Value} {below : List Frame} {meth : Method} {c : Code} {G : va_G} {cy : Nat → ClassId} {A : Nat → Prop} {L : Nat → Nat} {E : ms_En} (C : ms_Cx p m c cX9_add 3 s args (Cond.code ⟨"CensusWalk$Walkers", "add", "(II)V"⟩ prog_11_method_3_code 3 none) "CensusWalk$Walkers" G cy A) (hr : meth.sig.returnType = none) (hlocks : meth.locks = false) (hE : ms_WT E) {o : Nat} {a1 : Int32} {a2 : Int32} {post : ms_St → Prop}  (ho : ms_is E o 9)  (u : ms_St)   (h : wp_X9_add_48 E o a1 a2 post u ) : ms_At p l e ({ frames := 0, cells := 0, slots := 0, locals := 0 } : Room) s m args below meth c 3 G cy A L 0 0 (ms_QV below args s G cy L E A post 0 0) E u 48 [] [] := by
  unfold wp_X9_add_48 at h
  exact a_vret C dX9_add_48 hr hlocks (Nat.le_of_ble_eq_true rfl) (Nat.le_of_ble_eq_true rfl) h
def wp_X9_add (E : ms_En) (u : ms_St) (o : Nat) (a1 : Int32) (a2 : Int32) (post : ms_St → Prop) : Prop := (3 ≤ (ms_I u o 0) → wp_X9_add_48 E o a1 a2 post u) ∧ (¬ 3 ≤ (ms_I u o 0) → vp_in (ms_I u o 0) 3 ∧ (vp_in (ms_I (ms_sI u (ms_at E o 1) (Int32.toNatClampNeg (ms_I u o 0)) a1) o 0) 3 ∧ (∀ w27 : ms_St, w27 = (ms_sI (ms_sI u (ms_at E o 1) (Int32.toNatClampNeg (ms_I u o 0)) a1) (ms_at E o 2) (Int32.toNatClampNeg (ms_I (ms_sI u (ms_at E o 1) (Int32.toNatClampNeg (ms_I u o 0)) a1) o 0)) a2) → (vp_in (ms_I w27 o 0) 3 ∧ (∀ w45 : ms_St, w45 = (ms_sI (ms_sI w27 (ms_at E o 3) (Int32.toNatClampNeg (ms_I w27 o 0)) 0) o 0 ((ms_I (ms_sI w27 (ms_at E o 3) (Int32.toNatClampNeg (ms_I w27 o 0)) 0) o 0) + 1)) → (wp_X9_add_48 E o a1 a2 post w45))))))
set_option maxHeartbeats 4000000 in
set_option maxRecDepth 100000 in
theorem c_X9_add (l : Launch) (G : va_G) (cy : Nat → ClassId) (L : Nat → Nat) (E : ms_En) (hE : ms_WT E) (u : ms_St) (o : Nat) (a1 : Int32) (a2 : Int32) (ho : ms_is E o 9) (post : ms_St → Prop) (h : wp_X9_add E u o a1 a2 post) : ms_MetV l ⟨"CensusWalk$Walkers", "add", "(II)V"⟩ (Cond.code ⟨"CensusWalk$Walkers", "add", "(II)V"⟩ prog_11_method_3_code 3 none :: lw_g) ({ frames := 0, cells := 0, slots := 0, locals := 0 } : Room) G cy L E [.ref (L o), .int a1, .int a2] u post 0 0 := by
  refine ms_enterV (lv := [(0, .ref (L o)), (1, .int a1), (2, .int a2)]) (by decide) (Nat.le_of_ble_eq_true rfl) rfl ?_
  intro p e s m args below meth c A C hr hlocks
  unfold wp_X9_add at h
  refine a_aload_n C dX9_add_0 rfl 0 rfl rfl ?_
  refine g_9_0 C dX9_add_1 ho kw_1_137 rfl ?_
  refine a_iconst (v := 3) C dX9_add_4 (by decide) rfl ?_
  refine a_icmp_ge (tgt := 48) C dX9_add_5 (by decide) rfl (fun hc => ?_) (fun hc => ?_)
  · replace h := h.1 hc
    refine a_sub (lv' := []) [] rfl ?_
    exact c_X9_add_48 C hr hlocks hE ho  u  h
  · replace h := h.2 hc
    refine a_aload_n C dX9_add_8 rfl 0 rfl rfl ?_
    refine g_9_1 C hE dX9_add_9 ho kw_1_143 rfl ?_
    have k9 : ms_is E (ms_at E o 1) 13 := ms_wt hE ho rfl (by decide)
    have n9 : ms_N E (ms_at E o 1) = 3 := ms_wl hE ho (by decide) (by decide) rfl
    refine a_aload_n C dX9_add_12 rfl 0 rfl rfl ?_
    refine g_9_0 C dX9_add_13 ho kw_1_137 rfl ?_
    refine a_iload_n C dX9_add_16 rfl 1 rfl rfl ?_
    obtain ⟨q17, h⟩ := h
    refine a_iast C dX9_add_17 k9 n9 q17 rfl ?_
    refine a_aload_n C dX9_add_18 rfl 0 rfl rfl ?_
    refine g_9_2 C hE dX9_add_19 ho kw_1_146 rfl ?_
    have k19 : ms_is E (ms_at E o 2) 13 := ms_wt hE ho rfl (by decide)
    have n19 : ms_N E (ms_at E o 2) = 3 := ms_wl hE ho (by decide) (by decide) rfl
    refine a_aload_n C dX9_add_22 rfl 0 rfl rfl ?_
    refine g_9_0 C dX9_add_23 ho kw_1_137 rfl ?_
    refine a_iload_n C dX9_add_26 rfl 2 rfl rfl ?_
    obtain ⟨q27, h⟩ := h
    refine a_iast C dX9_add_27 k19 n19 q27 rfl ?_
    refine a_nmU (fun w27 e27 => ?_)
    replace h := h w27 e27
    refine a_aload_n C dX9_add_28 rfl 0 rfl rfl ?_
    refine g_9_3 C hE dX9_add_29 ho kw_1_149 rfl ?_
    have k29 : ms_is E (ms_at E o 3) 13 := ms_wt hE ho rfl (by decide)
    have n29 : ms_N E (ms_at E o 3) = 3 := ms_wl hE ho (by decide) (by decide) rfl
    refine a_aload_n C dX9_add_32 rfl 0 rfl rfl ?_
    refine g_9_0 C dX9_add_33 ho kw_1_137 rfl ?_
    refine a_iconst (v := 0) C dX9_add_36 (by decide) rfl ?_
    obtain ⟨q37, h⟩ := h
    refine a_iast C dX9_add_37 k29 n29 q37 rfl ?_
    refine a_aload_n C dX9_add_38 rfl 0 rfl rfl ?_
    refine a_dup C dX9_add_39 rfl rfl ?_
    refine g_9_0 C dX9_add_40 ho kw_1_137 rfl ?_
    refine a_iconst (v := 1) C dX9_add_43 (by decide) rfl ?_
    refine a_iadd C dX9_add_44 rfl ?_
    refine s_9_0 C dX9_add_45 ho kw_1_137 rfl ?_
    refine a_nmU (fun w45 e45 => ?_)
    replace h := h w45 e45
    refine a_sub (lv' := []) [] rfl ?_
    exact c_X9_add_48 C hr hlocks hE ho  w45  h

/-! CensusWalk$Walkers.plannedHouse(II)I -/
theorem pd_X9_plannedHouse : (⟨"CensusWalk$Walkers", "plannedHouse", "(II)I"⟩ : MethodName).cls = "CensusWalk$Walkers" ∧ (⟨"CensusWalk$Walkers", "plannedHouse", "(II)I"⟩ : MethodName).cls ≠ "java/lang/invoke/MethodHandle" ∧ (⟨"CensusWalk$Walkers", "plannedHouse", "(II)I"⟩ : MethodName).cls ≠ "java/lang/invoke/VarHandle" ∧ (parseMethodDescriptor (⟨"CensusWalk$Walkers", "plannedHouse", "(II)I"⟩ : MethodName).desc).map (fun d => d.parameters.length) = some 2 := by decide +kernel
def wp_X9_plannedHouse_22 (E : ms_En) (o : Nat) (a1 : Int32) (a2 : Int32) (post : Int32 → ms_St → Prop)  (u : ms_St)  : Prop := post (-1) u
set_option maxHeartbeats 4000000 in
set_option maxRecDepth 100000 in
theorem c_X9_plannedHouse_22 {p : Program} {l : Launch} {e : Env} {s : State} {m : MethodId} {args : Array Value} {below : List Frame} {meth : Method} {c : Code} {G : va_G} {cy : Nat → ClassId} {A : Nat → Prop} {L : Nat → Nat} {E : ms_En} (C : ms_Cx p m c cX9_plannedHouse 3 s args (Cond.code ⟨"CensusWalk$Walkers", "plannedHouse", "(II)I"⟩ prog_11_method_4_code 3 (some .int)) "CensusWalk$Walkers" G cy A) (hr : meth.sig.returnType = (some .int)) (hlocks : meth.locks = false) (hE : ms_WT E) {o : Nat} {a1 : Int32} {a2 : Int32} {post : Int32 → ms_St → Prop}  (ho : ms_is E o 9)  (u : ms_St)   (h : wp_X9_plannedHouse_22 E o a1 a2 post u ) : ms_At p l e ({ frames := 1, cells := 0, slots := 0, locals := 21 } : Room) s m args below meth c 3 G cy A L 0 0 (ms_QI below args s G cy L E A post 0 0) E u 22 [] [] := by
  unfold wp_X9_plannedHouse_22 at h
  refine a_iconst (v := (-1)) C dX9_plannedHouse_22 (by decide) rfl ?_
  exact a_iret C dX9_plannedHouse_23 hr hlocks (Nat.le_of_ble_eq_true rfl) (Nat.le_of_ble_eq_true rfl) h
def wp_X9_plannedHouse (E : ms_En) (u : ms_St) (o : Nat) (a1 : Int32) (a2 : Int32) (post : Int32 → ms_St → Prop) : Prop := wp_X9_has E u o a1 (fun r2 u2 => (r2 = 0 → wp_X9_plannedHouse_22 E o a1 a2 post u2) ∧ (¬ r2 = 0 → (a2 < 0 → wp_X9_plannedHouse_22 E o a1 a2 post u2) ∧ (¬ a2 < 0 → vp_in a1 3 ∧ ((a2 < (ms_I u2 (ms_at E o 3) (Int32.toNatClampNeg a1)) → vp_in ((a1 * 12) + a2) 36 ∧ (post (ms_I u2 (ms_at E o 4) (Int32.toNatClampNeg ((a1 * 12) + a2))) u2)) ∧ (¬ a2 < (ms_I u2 (ms_at E o 3) (Int32.toNatClampNeg a1)) → wp_X9_plannedHouse_22 E o a1 a2 post u2)))))
set_option maxHeartbeats 4000000 in
set_option maxRecDepth 100000 in
theorem c_X9_plannedHouse (l : Launch) (G : va_G) (cy : Nat → ClassId) (L : Nat → Nat) (E : ms_En) (hE : ms_WT E) (u : ms_St) (o : Nat) (a1 : Int32) (a2 : Int32) (ho : ms_is E o 9) (post : Int32 → ms_St → Prop) (h : wp_X9_plannedHouse E u o a1 a2 post) : ms_MetI l ⟨"CensusWalk$Walkers", "plannedHouse", "(II)I"⟩ (Cond.code ⟨"CensusWalk$Walkers", "plannedHouse", "(II)I"⟩ prog_11_method_4_code 3 (some .int) :: lw_g) ({ frames := 1, cells := 0, slots := 0, locals := 21 } : Room) G cy L E [.ref (L o), .int a1, .int a2] u post 0 0 := by
  refine ms_enterI (lv := [(0, .ref (L o)), (1, .int a1), (2, .int a2)]) (by decide) (Nat.le_of_ble_eq_true rfl) rfl ?_
  intro p e s m args below meth c A C hr hlocks
  unfold wp_X9_plannedHouse at h
  refine a_aload_n C dX9_plannedHouse_0 rfl 0 rfl rfl ?_
  refine a_iload_n C dX9_plannedHouse_1 rfl 1 rfl rfl ?_
  refine a_callVI C (c_X9_has l G cy L E hE u o a1 ho _ h) ho rfl (by decide) kw_3_26 kw_3_27 kw_3_28 kw_1_5 kw_3_29 rfl rfl pd_X9_has ⟨(Nat.le_of_ble_eq_true rfl), (Nat.le_of_ble_eq_true rfl)⟩ dX9_plannedHouse_2 rfl (Nat.le_of_ble_eq_true rfl) ⟨(Nat.le_of_ble_eq_true rfl), (Nat.le_of_ble_eq_true rfl)⟩ rfl (fun r2 u2 h => ?_)
  refine a_if_eq (tgt := 22) C dX9_plannedHouse_5 (by decide) rfl (fun hc => ?_) (fun hc => ?_)
  · replace h := h.1 hc
    refine a_sub (lv' := []) [] rfl ?_
    exact c_X9_plannedHouse_22 C hr hlocks hE ho  u2  h
  · replace h := h.2 hc
    refine a_iload_n C dX9_plannedHouse_8 rfl 2 rfl rfl ?_
    refine a_if_lt (tgt := 22) C dX9_plannedHouse_9 (by decide) rfl (fun hc => ?_) (fun hc => ?_)
    · replace h := h.1 hc
      refine a_sub (lv' := []) [] rfl ?_
      exact c_X9_plannedHouse_22 C hr hlocks hE ho  u2  h
    · replace h := h.2 hc
      refine a_iload_n C dX9_plannedHouse_12 rfl 2 rfl rfl ?_
      refine a_aload_n C dX9_plannedHouse_13 rfl 0 rfl rfl ?_
      refine g_9_3 C hE dX9_plannedHouse_14 ho kw_1_149 rfl ?_
      have k14 : ms_is E (ms_at E o 3) 13 := ms_wt hE ho rfl (by decide)
      have n14 : ms_N E (ms_at E o 3) = 3 := ms_wl hE ho (by decide) (by decide) rfl
      refine a_iload_n C dX9_plannedHouse_17 rfl 1 rfl rfl ?_
      obtain ⟨q18, h⟩ := h
      refine a_iald C dX9_plannedHouse_18 k14 n14 q18 rfl ?_
      refine a_icmp_lt (tgt := 24) C dX9_plannedHouse_19 (by decide) rfl (fun hc => ?_) (fun hc => ?_)
      · replace h := h.1 hc
        refine a_aload_n C dX9_plannedHouse_24 rfl 0 rfl rfl ?_
        refine g_9_4 C hE dX9_plannedHouse_25 ho kw_1_152 rfl ?_
        have k25 : ms_is E (ms_at E o 4) 13 := ms_wt hE ho rfl (by decide)
        have n25 : ms_N E (ms_at E o 4) = 36 := ms_wl hE ho (by decide) (by decide) rfl
        refine a_iload_n C dX9_plannedHouse_28 rfl 1 rfl rfl ?_
        refine a_bipush (v := 12) C dX9_plannedHouse_29 (by decide) rfl ?_
        refine a_imul C dX9_plannedHouse_31 rfl ?_
        refine a_iload_n C dX9_plannedHouse_32 rfl 2 rfl rfl ?_
        refine a_iadd C dX9_plannedHouse_33 rfl ?_
        obtain ⟨q34, h⟩ := h
        refine a_iald C dX9_plannedHouse_34 k25 n25 q34 rfl ?_
        exact a_iret C dX9_plannedHouse_35 hr hlocks (Nat.le_of_ble_eq_true rfl) (Nat.le_of_ble_eq_true rfl) h
      · replace h := h.2 hc
        refine a_sub (lv' := []) [] rfl ?_
        exact c_X9_plannedHouse_22 C hr hlocks hE ho  u2  h

/-! CensusWalk$Walkers.copyFrom(LCensusWalk$Walkers;)V -/
theorem pd_X9_copyFrom : (⟨"CensusWalk$Walkers", "copyFrom", "(LCensusWalk$Walkers;)V"⟩ : MethodName).cls = "CensusWalk$Walkers" ∧ (⟨"CensusWalk$Walkers", "copyFrom", "(LCensusWalk$Walkers;)V"⟩ : MethodName).cls ≠ "java/lang/invoke/MethodHandle" ∧ (⟨"CensusWalk$Walkers", "copyFrom", "(LCensusWalk$Walkers;)V"⟩ : MethodName).cls ≠ "java/lang/invoke/VarHandle" ∧ (parseMethodDescriptor (⟨"CensusWalk$Walkers", "copyFrom", "(LCensusWalk$Walkers;)V"⟩ : MethodName).desc).map (fun d => d.parameters.length) = some 1 := by decide +kernel
def wp_X9_copyFrom (E : ms_En) (u : ms_St) (o : Nat) (a1 : Nat) (post : ms_St → Prop) : Prop := ∀ w19 : ms_St, w19 = (ms_sA (ms_sI u o 0 (ms_I u a1 0)) (ms_at E o 1) (va_cpy (ms_I (ms_sI u o 0 (ms_I u a1 0)) (ms_at E a1 1)) (ms_I (ms_sI u o 0 (ms_I u a1 0)) (ms_at E o 1)) 0 0 3)) → (∀ w33 : ms_St, w33 = (ms_sA w19 (ms_at E o 2) (va_cpy (ms_I w19 (ms_at E a1 2)) (ms_I w19 (ms_at E o 2)) 0 0 3)) → (∀ w47 : ms_St, w47 = (ms_sA w33 (ms_at E o 3) (va_cpy (ms_I w33 (ms_at E a1 3)) (ms_I w33 (ms_at E o 3)) 0 0 3)) → (∀ w62 : ms_St, w62 = (ms_sA w47 (ms_at E o 4) (va_cpy (ms_I w47 (ms_at E a1 4)) (ms_I w47 (ms_at E o 4)) 0 0 36)) → (post w62))))
set_option maxHeartbeats 4000000 in
set_option maxRecDepth 100000 in
theorem c_X9_copyFrom (l : Launch) (G : va_G) (cy : Nat → ClassId) (L : Nat → Nat) (E : ms_En) (hE : ms_WT E) (u : ms_St) (o : Nat) (a1 : Nat) (ho : ms_is E o 9) (ha1 : ms_is E a1 9) (post : ms_St → Prop) (h : wp_X9_copyFrom E u o a1 post) : ms_MetV l ⟨"CensusWalk$Walkers", "copyFrom", "(LCensusWalk$Walkers;)V"⟩ (Cond.code ⟨"CensusWalk$Walkers", "copyFrom", "(LCensusWalk$Walkers;)V"⟩ prog_11_method_5_code 2 none :: lw_g) ({ frames := 1, cells := 0, slots := 0, locals := 60 } : Room) G cy L E [.ref (L o), .ref (L a1)] u post 0 0 := by
  refine ms_enterV (lv := [(0, .ref (L o)), (1, .ref (L a1))]) (by decide) (Nat.le_of_ble_eq_true rfl) rfl ?_
  intro p e s m args below meth c A C hr hlocks
  unfold wp_X9_copyFrom at h
  refine a_aload_n C dX9_copyFrom_0 rfl 0 rfl rfl ?_
  refine a_aload_n C dX9_copyFrom_1 rfl 1 rfl rfl ?_
  refine g_9_0 C dX9_copyFrom_2 ha1 kw_1_137 rfl ?_
  refine s_9_0 C dX9_copyFrom_5 ho kw_1_137 rfl ?_
  refine a_aload_n C dX9_copyFrom_8 rfl 1 rfl rfl ?_
  refine g_9_1 C hE dX9_copyFrom_9 ha1 kw_1_143 rfl ?_
  have k9 : ms_is E (ms_at E a1 1) 13 := ms_wt hE ha1 rfl (by decide)
  have n9 : ms_N E (ms_at E a1 1) = 3 := ms_wl hE ha1 (by decide) (by decide) rfl
  refine a_iconst (v := 0) C dX9_copyFrom_12 (by decide) rfl ?_
  refine a_aload_n C dX9_copyFrom_13 rfl 0 rfl rfl ?_
  refine g_9_1 C hE dX9_copyFrom_14 ho kw_1_143 rfl ?_
  have k14 : ms_is E (ms_at E o 1) 13 := ms_wt hE ho rfl (by decide)
  have n14 : ms_N E (ms_at E o 1) = 3 := ms_wl hE ho (by decide) (by decide) rfl
  refine a_iconst (v := 0) C dX9_copyFrom_17 (by decide) rfl ?_
  refine a_iconst (v := 3) C dX9_copyFrom_18 (by decide) rfl ?_
  have q19 : ¬ (0 : Int32) < 0 ∧ ¬ (0 : Int32) < 0 ∧ ¬ (3 : Int32) < 0 ∧ (0 : Int32).toNatClampNeg + (3 : Int32).toNatClampNeg ≤ 3 ∧ (0 : Int32).toNatClampNeg + (3 : Int32).toNatClampNeg ≤ 3 := by decide
  refine a_copyi C dX9_copyFrom_19 k9 k14 n9 n14 kw_3_118 kw_3_108 kw_3_107 kw_1_22 q19.1 q19.2.1 q19.2.2.1 q19.2.2.2.1 q19.2.2.2.2 (Nat.le_of_ble_eq_true rfl) (Nat.le_of_ble_eq_true rfl) rfl ?_
  refine a_nmU (fun w19 e19 => ?_)
  replace h := h w19 e19
  refine a_aload_n C dX9_copyFrom_22 rfl 1 rfl rfl ?_
  refine g_9_2 C hE dX9_copyFrom_23 ha1 kw_1_146 rfl ?_
  have k23 : ms_is E (ms_at E a1 2) 13 := ms_wt hE ha1 rfl (by decide)
  have n23 : ms_N E (ms_at E a1 2) = 3 := ms_wl hE ha1 (by decide) (by decide) rfl
  refine a_iconst (v := 0) C dX9_copyFrom_26 (by decide) rfl ?_
  refine a_aload_n C dX9_copyFrom_27 rfl 0 rfl rfl ?_
  refine g_9_2 C hE dX9_copyFrom_28 ho kw_1_146 rfl ?_
  have k28 : ms_is E (ms_at E o 2) 13 := ms_wt hE ho rfl (by decide)
  have n28 : ms_N E (ms_at E o 2) = 3 := ms_wl hE ho (by decide) (by decide) rfl
  refine a_iconst (v := 0) C dX9_copyFrom_31 (by decide) rfl ?_
  refine a_iconst (v := 3) C dX9_copyFrom_32 (by decide) rfl ?_
  have q33 : ¬ (0 : Int32) < 0 ∧ ¬ (0 : Int32) < 0 ∧ ¬ (3 : Int32) < 0 ∧ (0 : Int32).toNatClampNeg + (3 : Int32).toNatClampNeg ≤ 3 ∧ (0 : Int32).toNatClampNeg + (3 : Int32).toNatClampNeg ≤ 3 := by decide
  refine a_copyi C dX9_copyFrom_33 k23 k28 n23 n28 kw_3_118 kw_3_108 kw_3_107 kw_1_22 q33.1 q33.2.1 q33.2.2.1 q33.2.2.2.1 q33.2.2.2.2 (Nat.le_of_ble_eq_true rfl) (Nat.le_of_ble_eq_true rfl) rfl ?_
  refine a_nmU (fun w33 e33 => ?_)
  replace h := h w33 e33
  refine a_aload_n C dX9_copyFrom_36 rfl 1 rfl rfl ?_
  refine g_9_3 C hE dX9_copyFrom_37 ha1 kw_1_149 rfl ?_
  have k37 : ms_is E (ms_at E a1 3) 13 := ms_wt hE ha1 rfl (by decide)
  have n37 : ms_N E (ms_at E a1 3) = 3 := ms_wl hE ha1 (by decide) (by decide) rfl
  refine a_iconst (v := 0) C dX9_copyFrom_40 (by decide) rfl ?_
  refine a_aload_n C dX9_copyFrom_41 rfl 0 rfl rfl ?_
  refine g_9_3 C hE dX9_copyFrom_42 ho kw_1_149 rfl ?_
  have k42 : ms_is E (ms_at E o 3) 13 := ms_wt hE ho rfl (by decide)
  have n42 : ms_N E (ms_at E o 3) = 3 := ms_wl hE ho (by decide) (by decide) rfl
  refine a_iconst (v := 0) C dX9_copyFrom_45 (by decide) rfl ?_
  refine a_iconst (v := 3) C dX9_copyFrom_46 (by decide) rfl ?_
  have q47 : ¬ (0 : Int32) < 0 ∧ ¬ (0 : Int32) < 0 ∧ ¬ (3 : Int32) < 0 ∧ (0 : Int32).toNatClampNeg + (3 : Int32).toNatClampNeg ≤ 3 ∧ (0 : Int32).toNatClampNeg + (3 : Int32).toNatClampNeg ≤ 3 := by decide
  refine a_copyi C dX9_copyFrom_47 k37 k42 n37 n42 kw_3_118 kw_3_108 kw_3_107 kw_1_22 q47.1 q47.2.1 q47.2.2.1 q47.2.2.2.1 q47.2.2.2.2 (Nat.le_of_ble_eq_true rfl) (Nat.le_of_ble_eq_true rfl) rfl ?_
  refine a_nmU (fun w47 e47 => ?_)
  replace h := h w47 e47
  refine a_aload_n C dX9_copyFrom_50 rfl 1 rfl rfl ?_
  refine g_9_4 C hE dX9_copyFrom_51 ha1 kw_1_152 rfl ?_
  have k51 : ms_is E (ms_at E a1 4) 13 := ms_wt hE ha1 rfl (by decide)
  have n51 : ms_N E (ms_at E a1 4) = 36 := ms_wl hE ha1 (by decide) (by decide) rfl
  refine a_iconst (v := 0) C dX9_copyFrom_54 (by decide) rfl ?_
  refine a_aload_n C dX9_copyFrom_55 rfl 0 rfl rfl ?_
  refine g_9_4 C hE dX9_copyFrom_56 ho kw_1_152 rfl ?_
  have k56 : ms_is E (ms_at E o 4) 13 := ms_wt hE ho rfl (by decide)
  have n56 : ms_N E (ms_at E o 4) = 36 := ms_wl hE ho (by decide) (by decide) rfl
  refine a_iconst (v := 0) C dX9_copyFrom_59 (by decide) rfl ?_
  refine a_bipush (v := 36) C dX9_copyFrom_60 (by decide) rfl ?_
  have q62 : ¬ (0 : Int32) < 0 ∧ ¬ (0 : Int32) < 0 ∧ ¬ (36 : Int32) < 0 ∧ (0 : Int32).toNatClampNeg + (36 : Int32).toNatClampNeg ≤ 36 ∧ (0 : Int32).toNatClampNeg + (36 : Int32).toNatClampNeg ≤ 36 := by decide
  refine a_copyi C dX9_copyFrom_62 k51 k56 n51 n56 kw_3_118 kw_3_108 kw_3_107 kw_1_22 q62.1 q62.2.1 q62.2.2.1 q62.2.2.2.1 q62.2.2.2.2 (Nat.le_of_ble_eq_true rfl) (Nat.le_of_ble_eq_true rfl) rfl ?_
  refine a_nmU (fun w62 e62 => ?_)
  replace h := h w62 e62
  exact a_vret C dX9_copyFrom_65 hr hlocks (Nat.le_of_ble_eq_true rfl) (Nat.le_of_ble_eq_true rfl) h

/-! CensusWalk$Houses.has(I)Z -/
theorem pd_X0_has : (⟨"CensusWalk$Houses", "has", "(I)Z"⟩ : MethodName).cls = "CensusWalk$Houses" ∧ (⟨"CensusWalk$Houses", "has", "(I)Z"⟩ : MethodName).cls ≠ "java/lang/invoke/MethodHandle" ∧ (⟨"CensusWalk$Houses", "has", "(I)Z"⟩ : MethodName).cls ≠ "java/lang/invoke/VarHandle" ∧ (parseMethodDescriptor (⟨"CensusWalk$Houses", "has", "(I)Z"⟩ : MethodName).desc).map (fun d => d.parameters.length) = some 1 := by decide +kernel
def wp_X0_has_17 (E : ms_En) (o : Nat) (a1 : Int32) (post : Int32 → ms_St → Prop)  (u : ms_St) (z0 : Int32) : Prop := (z0 = 0 ∨ z0 = 1) ∧ (post z0 u)
set_option maxHeartbeats 4000000 in
set_option maxRecDepth 100000 in
theorem c_X0_has_17 {p : Program} {l : Launch} {e : Env} {s : State} {m : MethodId} {args : Array Value} {below : List Frame} {meth : Method} {c : Code} {G : va_G} {cy : Nat → ClassId} {A : Nat → Prop} {L : Nat → Nat} {E : ms_En} (C : ms_Cx p m c cX0_has 2 s args (Cond.code ⟨"CensusWalk$Houses", "has", "(I)Z"⟩ prog_2_method_2_code 2 (some .boolean)) "CensusWalk$Houses" G cy A) (hr : meth.sig.returnType = (some .boolean)) (hlocks : meth.locks = false) (hE : ms_WT E) {o : Nat} {a1 : Int32} {post : Int32 → ms_St → Prop}  (ho : ms_is E o 0)  (u : ms_St) (z0 : Int32)  (h : wp_X0_has_17 E o a1 post u z0) : ms_At p l e ({ frames := 0, cells := 0, slots := 0, locals := 0 } : Room) s m args below meth c 2 G cy A L 0 0 (ms_QI below args s G cy L E A post 0 0) E u 17 [] [.int z0] := by
  unfold wp_X0_has_17 at h
  obtain ⟨q17, h⟩ := h
  exact a_zret C dX0_has_17 hr hlocks (Nat.le_of_ble_eq_true rfl) (Nat.le_of_ble_eq_true rfl) (ms_nz q17) h
def wp_X0_has_16 (E : ms_En) (o : Nat) (a1 : Int32) (post : Int32 → ms_St → Prop)  (u : ms_St)  : Prop := wp_X0_has_17 E o a1 post u 0
set_option maxHeartbeats 4000000 in
set_option maxRecDepth 100000 in
theorem c_X0_has_16 {p : Program} {l : Launch} {e : Env} {s : State} {m : MethodId} {args : Array Value} {below : List Frame} {meth : Method} {c : Code} {G : va_G} {cy : Nat → ClassId} {A : Nat → Prop} {L : Nat → Nat} {E : ms_En} (C : ms_Cx p m c cX0_has 2 s args (Cond.code ⟨"CensusWalk$Houses", "has", "(I)Z"⟩ prog_2_method_2_code 2 (some .boolean)) "CensusWalk$Houses" G cy A) (hr : meth.sig.returnType = (some .boolean)) (hlocks : meth.locks = false) (hE : ms_WT E) {o : Nat} {a1 : Int32} {post : Int32 → ms_St → Prop}  (ho : ms_is E o 0)  (u : ms_St)   (h : wp_X0_has_16 E o a1 post u ) : ms_At p l e ({ frames := 0, cells := 0, slots := 0, locals := 0 } : Room) s m args below meth c 2 G cy A L 0 0 (ms_QI below args s G cy L E A post 0 0) E u 16 [] [] := by
  unfold wp_X0_has_16 at h
  refine a_iconst (v := 0) C dX0_has_16 (by decide) rfl ?_
  exact c_X0_has_17 C hr hlocks hE ho  u 0  h
def wp_X0_has (E : ms_En) (u : ms_St) (o : Nat) (a1 : Int32) (post : Int32 → ms_St → Prop) : Prop := (a1 < 0 → wp_X0_has_16 E o a1 post u) ∧ (¬ a1 < 0 → ((ms_I u o 0) ≤ a1 → wp_X0_has_16 E o a1 post u) ∧ (¬ (ms_I u o 0) ≤ a1 → wp_X0_has_17 E o a1 post u 1))
set_option maxHeartbeats 4000000 in
set_option maxRecDepth 100000 in
theorem c_X0_has (l : Launch) (G : va_G) (cy : Nat → ClassId) (L : Nat → Nat) (E : ms_En) (hE : ms_WT E) (u : ms_St) (o : Nat) (a1 : Int32) (ho : ms_is E o 0) (post : Int32 → ms_St → Prop) (h : wp_X0_has E u o a1 post) : ms_MetI l ⟨"CensusWalk$Houses", "has", "(I)Z"⟩ (Cond.code ⟨"CensusWalk$Houses", "has", "(I)Z"⟩ prog_2_method_2_code 2 (some .boolean) :: lw_g) ({ frames := 0, cells := 0, slots := 0, locals := 0 } : Room) G cy L E [.ref (L o), .int a1] u post 0 0 := by
  refine ms_enterI (lv := [(0, .ref (L o)), (1, .int a1)]) (by decide) (Nat.le_of_ble_eq_true rfl) rfl ?_
  intro p e s m args below meth c A C hr hlocks
  unfold wp_X0_has at h
  refine a_iload_n C dX0_has_0 rfl 1 rfl rfl ?_
  refine a_if_lt (tgt := 16) C dX0_has_1 (by decide) rfl (fun hc => ?_) (fun hc => ?_)
  · replace h := h.1 hc
    refine a_sub (lv' := []) [] rfl ?_
    exact c_X0_has_16 C hr hlocks hE ho  u  h
  · replace h := h.2 hc
    refine a_iload_n C dX0_has_4 rfl 1 rfl rfl ?_
    refine a_aload_n C dX0_has_5 rfl 0 rfl rfl ?_
    refine g_0_0 C dX0_has_6 ho kw_1_82 rfl ?_
    refine a_icmp_ge (tgt := 16) C dX0_has_9 (by decide) rfl (fun hc => ?_) (fun hc => ?_)
    · replace h := h.1 hc
      refine a_sub (lv' := []) [] rfl ?_
      exact c_X0_has_16 C hr hlocks hE ho  u  h
    · replace h := h.2 hc
      refine a_iconst (v := 1) C dX0_has_12 (by decide) rfl ?_
      refine a_goto (tgt := 17) C dX0_has_13 (by decide) ?_
      refine a_sub (lv' := []) [] rfl ?_
      exact c_X0_has_17 C hr hlocks hE ho  u 1  h

/-! CensusWalk$Houses.homeAt(II)Z -/
theorem pd_X0_homeAt : (⟨"CensusWalk$Houses", "homeAt", "(II)Z"⟩ : MethodName).cls = "CensusWalk$Houses" ∧ (⟨"CensusWalk$Houses", "homeAt", "(II)Z"⟩ : MethodName).cls ≠ "java/lang/invoke/MethodHandle" ∧ (⟨"CensusWalk$Houses", "homeAt", "(II)Z"⟩ : MethodName).cls ≠ "java/lang/invoke/VarHandle" ∧ (parseMethodDescriptor (⟨"CensusWalk$Houses", "homeAt", "(II)Z"⟩ : MethodName).desc).map (fun d => d.parameters.length) = some 2 := by decide +kernel
def wp_X0_homeAt_33 (E : ms_En) (o : Nat) (a1 : Int32) (a2 : Int32) (post : Int32 → ms_St → Prop)  (u : ms_St) (z0 : Int32) : Prop := (z0 = 0 ∨ z0 = 1) ∧ (post z0 u)
set_option maxHeartbeats 4000000 in
set_option maxRecDepth 100000 in
theorem c_X0_homeAt_33 {p : Program} {l : Launch} {e : Env} {s : State} {m : MethodId} {args : Array Value} {below : List Frame} {meth : Method} {c : Code} {G : va_G} {cy : Nat → ClassId} {A : Nat → Prop} {L : Nat → Nat} {E : ms_En} (C : ms_Cx p m c cX0_homeAt 3 s args (Cond.code ⟨"CensusWalk$Houses", "homeAt", "(II)Z"⟩ prog_2_method_3_code 3 (some .boolean)) "CensusWalk$Houses" G cy A) (hr : meth.sig.returnType = (some .boolean)) (hlocks : meth.locks = false) (hE : ms_WT E) {o : Nat} {a1 : Int32} {a2 : Int32} {post : Int32 → ms_St → Prop}  (ho : ms_is E o 0)  (u : ms_St) (z0 : Int32)  (h : wp_X0_homeAt_33 E o a1 a2 post u z0) : ms_At p l e ({ frames := 1, cells := 0, slots := 0, locals := 21 } : Room) s m args below meth c 3 G cy A L 0 0 (ms_QI below args s G cy L E A post 0 0) E u 33 [] [.int z0] := by
  unfold wp_X0_homeAt_33 at h
  obtain ⟨q33, h⟩ := h
  exact a_zret C dX0_homeAt_33 hr hlocks (Nat.le_of_ble_eq_true rfl) (Nat.le_of_ble_eq_true rfl) (ms_nz q33) h
def wp_X0_homeAt_32 (E : ms_En) (o : Nat) (a1 : Int32) (a2 : Int32) (post : Int32 → ms_St → Prop)  (u : ms_St)  : Prop := wp_X0_homeAt_33 E o a1 a2 post u 0
set_option maxHeartbeats 4000000 in
set_option maxRecDepth 100000 in
theorem c_X0_homeAt_32 {p : Program} {l : Launch} {e : Env} {s : State} {m : MethodId} {args : Array Value} {below : List Frame} {meth : Method} {c : Code} {G : va_G} {cy : Nat → ClassId} {A : Nat → Prop} {L : Nat → Nat} {E : ms_En} (C : ms_Cx p m c cX0_homeAt 3 s args (Cond.code ⟨"CensusWalk$Houses", "homeAt", "(II)Z"⟩ prog_2_method_3_code 3 (some .boolean)) "CensusWalk$Houses" G cy A) (hr : meth.sig.returnType = (some .boolean)) (hlocks : meth.locks = false) (hE : ms_WT E) {o : Nat} {a1 : Int32} {a2 : Int32} {post : Int32 → ms_St → Prop}  (ho : ms_is E o 0)  (u : ms_St)   (h : wp_X0_homeAt_32 E o a1 a2 post u ) : ms_At p l e ({ frames := 1, cells := 0, slots := 0, locals := 21 } : Room) s m args below meth c 3 G cy A L 0 0 (ms_QI below args s G cy L E A post 0 0) E u 32 [] [] := by
  unfold wp_X0_homeAt_32 at h
  refine a_iconst (v := 0) C dX0_homeAt_32 (by decide) rfl ?_
  exact c_X0_homeAt_33 C hr hlocks hE ho  u 0  h
def wp_X0_homeAt (E : ms_En) (u : ms_St) (o : Nat) (a1 : Int32) (a2 : Int32) (post : Int32 → ms_St → Prop) : Prop := wp_X0_has E u o a1 (fun r2 u2 => (r2 = 0 → wp_X0_homeAt_32 E o a1 a2 post u2) ∧ (¬ r2 = 0 → vp_in a1 16 ∧ ((a2 < (ms_I u2 (ms_at E o 5) (Int32.toNatClampNeg a1)) → wp_X0_homeAt_32 E o a1 a2 post u2) ∧ (¬ a2 < (ms_I u2 (ms_at E o 5) (Int32.toNatClampNeg a1)) → vp_in a1 16 ∧ (((ms_I u2 (ms_at E o 6) (Int32.toNatClampNeg a1)) ≤ a2 → wp_X0_homeAt_32 E o a1 a2 post u2) ∧ (¬ (ms_I u2 (ms_at E o 6) (Int32.toNatClampNeg a1)) ≤ a2 → wp_X0_homeAt_33 E o a1 a2 post u2 1))))))
set_option maxHeartbeats 4000000 in
set_option maxRecDepth 100000 in
theorem c_X0_homeAt (l : Launch) (G : va_G) (cy : Nat → ClassId) (L : Nat → Nat) (E : ms_En) (hE : ms_WT E) (u : ms_St) (o : Nat) (a1 : Int32) (a2 : Int32) (ho : ms_is E o 0) (post : Int32 → ms_St → Prop) (h : wp_X0_homeAt E u o a1 a2 post) : ms_MetI l ⟨"CensusWalk$Houses", "homeAt", "(II)Z"⟩ (Cond.code ⟨"CensusWalk$Houses", "homeAt", "(II)Z"⟩ prog_2_method_3_code 3 (some .boolean) :: lw_g) ({ frames := 1, cells := 0, slots := 0, locals := 21 } : Room) G cy L E [.ref (L o), .int a1, .int a2] u post 0 0 := by
  refine ms_enterI (lv := [(0, .ref (L o)), (1, .int a1), (2, .int a2)]) (by decide) (Nat.le_of_ble_eq_true rfl) rfl ?_
  intro p e s m args below meth c A C hr hlocks
  unfold wp_X0_homeAt at h
  refine a_aload_n C dX0_homeAt_0 rfl 0 rfl rfl ?_
  refine a_iload_n C dX0_homeAt_1 rfl 1 rfl rfl ?_
  refine a_callVI C (c_X0_has l G cy L E hE u o a1 ho _ h) ho rfl (by decide) kw_3_79 kw_3_39 kw_3_40 kw_1_4 kw_3_41 rfl rfl pd_X0_has ⟨(Nat.le_of_ble_eq_true rfl), (Nat.le_of_ble_eq_true rfl)⟩ dX0_homeAt_2 rfl (Nat.le_of_ble_eq_true rfl) ⟨(Nat.le_of_ble_eq_true rfl), (Nat.le_of_ble_eq_true rfl)⟩ rfl (fun r2 u2 h => ?_)
  refine a_if_eq (tgt := 32) C dX0_homeAt_5 (by decide) rfl (fun hc => ?_) (fun hc => ?_)
  · replace h := h.1 hc
    refine a_sub (lv' := []) [] rfl ?_
    exact c_X0_homeAt_32 C hr hlocks hE ho  u2  h
  · replace h := h.2 hc
    refine a_aload_n C dX0_homeAt_8 rfl 0 rfl rfl ?_
    refine g_0_5 C hE dX0_homeAt_9 ho kw_1_100 rfl ?_
    have k9 : ms_is E (ms_at E o 5) 13 := ms_wt hE ho rfl (by decide)
    have n9 : ms_N E (ms_at E o 5) = 16 := ms_wl hE ho (by decide) (by decide) rfl
    refine a_iload_n C dX0_homeAt_12 rfl 1 rfl rfl ?_
    obtain ⟨q13, h⟩ := h
    refine a_iald C dX0_homeAt_13 k9 n9 q13 rfl ?_
    refine a_iload_n C dX0_homeAt_14 rfl 2 rfl rfl ?_
    refine a_icmp_gt (tgt := 32) C dX0_homeAt_15 (by decide) rfl (fun hc => ?_) (fun hc => ?_)
    · replace h := h.1 hc
      refine a_sub (lv' := []) [] rfl ?_
      exact c_X0_homeAt_32 C hr hlocks hE ho  u2  h
    · replace h := h.2 hc
      refine a_iload_n C dX0_homeAt_18 rfl 2 rfl rfl ?_
      refine a_aload_n C dX0_homeAt_19 rfl 0 rfl rfl ?_
      refine g_0_6 C hE dX0_homeAt_20 ho kw_1_104 rfl ?_
      have k20 : ms_is E (ms_at E o 6) 13 := ms_wt hE ho rfl (by decide)
      have n20 : ms_N E (ms_at E o 6) = 16 := ms_wl hE ho (by decide) (by decide) rfl
      refine a_iload_n C dX0_homeAt_23 rfl 1 rfl rfl ?_
      obtain ⟨q24, h⟩ := h
      refine a_iald C dX0_homeAt_24 k20 n20 q24 rfl ?_
      refine a_icmp_ge (tgt := 32) C dX0_homeAt_25 (by decide) rfl (fun hc => ?_) (fun hc => ?_)
      · replace h := h.1 hc
        refine a_sub (lv' := []) [] rfl ?_
        exact c_X0_homeAt_32 C hr hlocks hE ho  u2  h
      · replace h := h.2 hc
        refine a_iconst (v := 1) C dX0_homeAt_28 (by decide) rfl ?_
        refine a_goto (tgt := 33) C dX0_homeAt_29 (by decide) ?_
        refine a_sub (lv' := []) [] rfl ?_
        exact c_X0_homeAt_33 C hr hlocks hE ho  u2 1  h

/-! CensusWalk$Houses.visitTime(II)I -/
theorem pd_X0_visitTime : (⟨"CensusWalk$Houses", "visitTime", "(II)I"⟩ : MethodName).cls = "CensusWalk$Houses" ∧ (⟨"CensusWalk$Houses", "visitTime", "(II)I"⟩ : MethodName).cls ≠ "java/lang/invoke/MethodHandle" ∧ (⟨"CensusWalk$Houses", "visitTime", "(II)I"⟩ : MethodName).cls ≠ "java/lang/invoke/VarHandle" ∧ (parseMethodDescriptor (⟨"CensusWalk$Houses", "visitTime", "(II)I"⟩ : MethodName).desc).map (fun d => d.parameters.length) = some 2 := by decide +kernel
def wp_X0_visitTime_18 (E : ms_En) (o : Nat) (a1 : Int32) (a2 : Int32) (post : Int32 → ms_St → Prop)  (u : ms_St)  : Prop := post 10 u
set_option maxHeartbeats 4000000 in
set_option maxRecDepth 100000 in
theorem c_X0_visitTime_18 {p : Program} {l : Launch} {e : Env} {s : State} {m : MethodId} {args : Array Value} {below : List Frame} {meth : Method} {c : Code} {G : va_G} {cy : Nat → ClassId} {A : Nat → Prop} {L : Nat → Nat} {E : ms_En} (C : ms_Cx p m c cX0_visitTime 3 s args (Cond.code ⟨"CensusWalk$Houses", "visitTime", "(II)I"⟩ prog_2_method_4_code 3 (some .int)) "CensusWalk$Houses" G cy A) (hr : meth.sig.returnType = (some .int)) (hlocks : meth.locks = false) (hE : ms_WT E) {o : Nat} {a1 : Int32} {a2 : Int32} {post : Int32 → ms_St → Prop}  (ho : ms_is E o 0)  (u : ms_St)   (h : wp_X0_visitTime_18 E o a1 a2 post u ) : ms_At p l e ({ frames := 1, cells := 0, slots := 0, locals := 21 } : Room) s m args below meth c 3 G cy A L 0 0 (ms_QI below args s G cy L E A post 0 0) E u 18 [] [] := by
  unfold wp_X0_visitTime_18 at h
  refine a_bipush (v := 10) C dX0_visitTime_18 (by decide) rfl ?_
  exact a_iret C dX0_visitTime_20 hr hlocks (Nat.le_of_ble_eq_true rfl) (Nat.le_of_ble_eq_true rfl) h
def wp_X0_visitTime_42 (E : ms_En) (o : Nat) (a1 : Int32) (a2 : Int32) (post : Int32 → ms_St → Prop)  (u : ms_St) (z0 : Int32) (z1 : Int32) (z2 : Nat) : Prop := vp_in (((z1 + z0) + a2) - 1) 64 ∧ (post (ms_I u z2 (Int32.toNatClampNeg (((z1 + z0) + a2) - 1))) u)
set_option maxHeartbeats 4000000 in
set_option maxRecDepth 100000 in
theorem c_X0_visitTime_42 {p : Program} {l : Launch} {e : Env} {s : State} {m : MethodId} {args : Array Value} {below : List Frame} {meth : Method} {c : Code} {G : va_G} {cy : Nat → ClassId} {A : Nat → Prop} {L : Nat → Nat} {E : ms_En} (C : ms_Cx p m c cX0_visitTime 3 s args (Cond.code ⟨"CensusWalk$Houses", "visitTime", "(II)I"⟩ prog_2_method_4_code 3 (some .int)) "CensusWalk$Houses" G cy A) (hr : meth.sig.returnType = (some .int)) (hlocks : meth.locks = false) (hE : ms_WT E) {o : Nat} {a1 : Int32} {a2 : Int32} {post : Int32 → ms_St → Prop}  (ho : ms_is E o 0)  (u : ms_St) (z0 : Int32) (z1 : Int32) (z2 : Nat) (k_z2 : ms_is E z2 13) (n_z2 : ms_N E z2 = 64) (h : wp_X0_visitTime_42 E o a1 a2 post u z0 z1 z2) : ms_At p l e ({ frames := 1, cells := 0, slots := 0, locals := 21 } : Room) s m args below meth c 3 G cy A L 0 0 (ms_QI below args s G cy L E A post 0 0) E u 42 [(2, .int a2)] [.int z0, .int z1, .ref (L z2)] := by
  unfold wp_X0_visitTime_42 at h
  refine a_iadd C dX0_visitTime_42 rfl ?_
  refine a_iload_n C dX0_visitTime_43 rfl 0 rfl rfl ?_
  refine a_iadd C dX0_visitTime_44 rfl ?_
  refine a_iconst (v := 1) C dX0_visitTime_45 (by decide) rfl ?_
  refine a_isub C dX0_visitTime_46 rfl ?_
  obtain ⟨q47, h⟩ := h
  refine a_iald C dX0_visitTime_47 k_z2 n_z2 q47 rfl ?_
  exact a_iret C dX0_visitTime_48 hr hlocks (Nat.le_of_ble_eq_true rfl) (Nat.le_of_ble_eq_true rfl) h
def wp_X0_visitTime (E : ms_En) (u : ms_St) (o : Nat) (a1 : Int32) (a2 : Int32) (post : Int32 → ms_St → Prop) : Prop := wp_X0_has E u o a1 (fun r2 u2 => (r2 = 0 → wp_X0_visitTime_18 E o a1 a2 post u2) ∧ (¬ r2 = 0 → (a2 < 1 → wp_X0_visitTime_18 E o a1 a2 post u2) ∧ (¬ a2 < 1 → (a2 ≤ 2 → vp_in a1 16 ∧ (((ms_I u2 (ms_at E o 7) (Int32.toNatClampNeg a1)) = 0 → wp_X0_visitTime_42 E o a1 a2 post u2 0 (a1 * 4) (ms_at E o 8)) ∧ (¬ (ms_I u2 (ms_at E o 7) (Int32.toNatClampNeg a1)) = 0 → wp_X0_visitTime_42 E o a1 a2 post u2 2 (a1 * 4) (ms_at E o 8)))) ∧ (¬ a2 ≤ 2 → wp_X0_visitTime_18 E o a1 a2 post u2))))
set_option maxHeartbeats 4000000 in
set_option maxRecDepth 100000 in
theorem c_X0_visitTime (l : Launch) (G : va_G) (cy : Nat → ClassId) (L : Nat → Nat) (E : ms_En) (hE : ms_WT E) (u : ms_St) (o : Nat) (a1 : Int32) (a2 : Int32) (ho : ms_is E o 0) (post : Int32 → ms_St → Prop) (h : wp_X0_visitTime E u o a1 a2 post) : ms_MetI l ⟨"CensusWalk$Houses", "visitTime", "(II)I"⟩ (Cond.code ⟨"CensusWalk$Houses", "visitTime", "(II)I"⟩ prog_2_method_4_code 3 (some .int) :: lw_g) ({ frames := 1, cells := 0, slots := 0, locals := 21 } : Room) G cy L E [.ref (L o), .int a1, .int a2] u post 0 0 := by
  refine ms_enterI (lv := [(0, .ref (L o)), (1, .int a1), (2, .int a2)]) (by decide) (Nat.le_of_ble_eq_true rfl) rfl ?_
  intro p e s m args below meth c A C hr hlocks
  unfold wp_X0_visitTime at h
  refine a_aload_n C dX0_visitTime_0 rfl 0 rfl rfl ?_
  refine a_iload_n C dX0_visitTime_1 rfl 1 rfl rfl ?_
  refine a_callVI C (c_X0_has l G cy L E hE u o a1 ho _ h) ho rfl (by decide) kw_3_79 kw_3_39 kw_3_40 kw_1_4 kw_3_41 rfl rfl pd_X0_has ⟨(Nat.le_of_ble_eq_true rfl), (Nat.le_of_ble_eq_true rfl)⟩ dX0_visitTime_2 rfl (Nat.le_of_ble_eq_true rfl) ⟨(Nat.le_of_ble_eq_true rfl), (Nat.le_of_ble_eq_true rfl)⟩ rfl (fun r2 u2 h => ?_)
  refine a_if_eq (tgt := 18) C dX0_visitTime_5 (by decide) rfl (fun hc => ?_) (fun hc => ?_)
  · replace h := h.1 hc
    refine a_sub (lv' := []) [] rfl ?_
    exact c_X0_visitTime_18 C hr hlocks hE ho  u2  h
  · replace h := h.2 hc
    refine a_iload_n C dX0_visitTime_8 rfl 2 rfl rfl ?_
    refine a_iconst (v := 1) C dX0_visitTime_9 (by decide) rfl ?_
    refine a_icmp_lt (tgt := 18) C dX0_visitTime_10 (by decide) rfl (fun hc => ?_) (fun hc => ?_)
    · replace h := h.1 hc
      refine a_sub (lv' := []) [] rfl ?_
      exact c_X0_visitTime_18 C hr hlocks hE ho  u2  h
    · replace h := h.2 hc
      refine a_iload_n C dX0_visitTime_13 rfl 2 rfl rfl ?_
      refine a_iconst (v := 2) C dX0_visitTime_14 (by decide) rfl ?_
      refine a_icmp_le (tgt := 21) C dX0_visitTime_15 (by decide) rfl (fun hc => ?_) (fun hc => ?_)
      · replace h := h.1 hc
        refine a_aload_n C dX0_visitTime_21 rfl 0 rfl rfl ?_
        refine g_0_8 C hE dX0_visitTime_22 ho kw_1_111 rfl ?_
        have k22 : ms_is E (ms_at E o 8) 13 := ms_wt hE ho rfl (by decide)
        have n22 : ms_N E (ms_at E o 8) = 64 := ms_wl hE ho (by decide) (by decide) rfl
        refine a_iload_n C dX0_visitTime_25 rfl 1 rfl rfl ?_
        refine a_iconst (v := 4) C dX0_visitTime_26 (by decide) rfl ?_
        refine a_imul C dX0_visitTime_27 rfl ?_
        refine a_aload_n C dX0_visitTime_28 rfl 0 rfl rfl ?_
        refine g_0_7 C hE dX0_visitTime_29 ho kw_1_108 rfl ?_
        have k29 : ms_is E (ms_at E o 7) 15 := ms_wt hE ho rfl (by decide)
        have n29 : ms_N E (ms_at E o 7) = 16 := ms_wl hE ho (by decide) (by decide) rfl
        refine a_iload_n C dX0_visitTime_32 rfl 1 rfl rfl ?_
        obtain ⟨q33, h⟩ := h
        refine a_zald C dX0_visitTime_33 k29 n29 q33 rfl ?_
        refine a_if_eq (tgt := 41) C dX0_visitTime_34 (by decide) rfl (fun hc => ?_) (fun hc => ?_)
        · replace h := h.1 hc
          refine a_iconst (v := 0) C dX0_visitTime_41 (by decide) rfl ?_
          refine a_sub (lv' := [(2, .int a2)]) [2] rfl ?_
          exact c_X0_visitTime_42 C hr hlocks hE ho  u2 0 (a1 * 4) (ms_at E o 8) k22 n22 h
        · replace h := h.2 hc
          refine a_iconst (v := 2) C dX0_visitTime_37 (by decide) rfl ?_
          refine a_goto (tgt := 42) C dX0_visitTime_38 (by decide) ?_
          refine a_sub (lv' := [(2, .int a2)]) [2] rfl ?_
          exact c_X0_visitTime_42 C hr hlocks hE ho  u2 2 (a1 * 4) (ms_at E o 8) k22 n22 h
      · replace h := h.2 hc
        refine a_sub (lv' := []) [] rfl ?_
        exact c_X0_visitTime_18 C hr hlocks hE ho  u2  h

/-! CensusWalk$Houses.copyFrom(LCensusWalk$Houses;)V -/
theorem pd_X0_copyFrom : (⟨"CensusWalk$Houses", "copyFrom", "(LCensusWalk$Houses;)V"⟩ : MethodName).cls = "CensusWalk$Houses" ∧ (⟨"CensusWalk$Houses", "copyFrom", "(LCensusWalk$Houses;)V"⟩ : MethodName).cls ≠ "java/lang/invoke/MethodHandle" ∧ (⟨"CensusWalk$Houses", "copyFrom", "(LCensusWalk$Houses;)V"⟩ : MethodName).cls ≠ "java/lang/invoke/VarHandle" ∧ (parseMethodDescriptor (⟨"CensusWalk$Houses", "copyFrom", "(LCensusWalk$Houses;)V"⟩ : MethodName).desc).map (fun d => d.parameters.length) = some 1 := by decide +kernel
def wp_X0_copyFrom_115 (E : ms_En) (o : Nat) (a1 : Nat) (post : ms_St → Prop)  : Nat → ms_St → Int32 → Prop
  | 0 => fun _ _ => False
  | n + 1 => fun u x2 => (16 ≤ x2 → post u) ∧ (¬ 16 ≤ x2 → vp_in x2 16 ∧ (vp_in x2 16 ∧ (∀ w132 : ms_St, w132 = (ms_sI u (ms_at E o 7) (Int32.toNatClampNeg x2) (vp_nar .boolean (ms_I u (ms_at E a1 7) (Int32.toNatClampNeg x2)))) → (wp_X0_copyFrom_115 E o a1 post n w132 (x2 + 1)))))
set_option maxHeartbeats 4000000 in
set_option maxRecDepth 100000 in
theorem c_X0_copyFrom_115 {p : Program} {l : Launch} {e : Env} {s : State} {m : MethodId} {args : Array Value} {below : List Frame} {meth : Method} {c : Code} {G : va_G} {cy : Nat → ClassId} {A : Nat → Prop} {L : Nat → Nat} {E : ms_En} (C : ms_Cx p m c cX0_copyFrom 3 s args (Cond.code ⟨"CensusWalk$Houses", "copyFrom", "(LCensusWalk$Houses;)V"⟩ prog_2_method_6_code 3 none) "CensusWalk$Houses" G cy A) (hr : meth.sig.returnType = none) (hlocks : meth.locks = false) (hE : ms_WT E) {o : Nat} {a1 : Nat} {post : ms_St → Prop}  (ho : ms_is E o 0) (ha1 : ms_is E a1 0)  : ∀ (n : Nat) (u : ms_St) (x2 : Int32), wp_X0_copyFrom_115 E o a1 post n u x2 → ms_At p l e ({ frames := 1, cells := 0, slots := 0, locals := 60 } : Room) s m args below meth c 3 G cy A L 0 0 (ms_QV below args s G cy L E A post 0 0) E u 115 [(0, .ref (L o)), (1, .ref (L a1)), (2, .int x2)] [] := by
  intro n
  induction n with
  | zero =>
    intro u x2  h
    exact absurd h id
  | succ n ih =>
    intro u x2  h
    unfold wp_X0_copyFrom_115 at h
    refine a_iload_n C dX0_copyFrom_115 rfl 2 rfl rfl ?_
    refine a_bipush (v := 16) C dX0_copyFrom_116 (by decide) rfl ?_
    refine a_icmp_ge (tgt := 139) C dX0_copyFrom_118 (by decide) rfl (fun hc => ?_) (fun hc => ?_)
    · replace h := h.1 hc
      exact a_vret C dX0_copyFrom_139 hr hlocks (Nat.le_of_ble_eq_true rfl) (Nat.le_of_ble_eq_true rfl) h
    · replace h := h.2 hc
      refine a_aload_n C dX0_copyFrom_121 rfl 0 rfl rfl ?_
      refine g_0_7 C hE dX0_copyFrom_122 ho kw_1_108 rfl ?_
      have k122 : ms_is E (ms_at E o 7) 15 := ms_wt hE ho rfl (by decide)
      have n122 : ms_N E (ms_at E o 7) = 16 := ms_wl hE ho (by decide) (by decide) rfl
      refine a_iload_n C dX0_copyFrom_125 rfl 2 rfl rfl ?_
      refine a_aload_n C dX0_copyFrom_126 rfl 1 rfl rfl ?_
      refine g_0_7 C hE dX0_copyFrom_127 ha1 kw_1_108 rfl ?_
      have k127 : ms_is E (ms_at E a1 7) 15 := ms_wt hE ha1 rfl (by decide)
      have n127 : ms_N E (ms_at E a1 7) = 16 := ms_wl hE ha1 (by decide) (by decide) rfl
      refine a_iload_n C dX0_copyFrom_130 rfl 2 rfl rfl ?_
      obtain ⟨q131, h⟩ := h
      refine a_zald C dX0_copyFrom_131 k127 n127 q131 rfl ?_
      obtain ⟨q132, h⟩ := h
      refine a_zast C dX0_copyFrom_132 k122 n122 q132 rfl ?_
      refine a_nmU (fun w132 e132 => ?_)
      replace h := h w132 e132
      refine a_iinc (lv' := [(0, .ref (L o)), (1, .ref (L a1)), (2, .int (x2 + 1))]) (v := (x2 + 1)) C dX0_copyFrom_133 2 rfl (congrArg (fun z => x2 + z) (by decide)) (by decide) [1, 2, 0] rfl rfl ?_
      refine a_goto (tgt := 115) C dX0_copyFrom_136 (by decide) ?_
      exact ih w132 (x2 + 1)  h
def wp_X0_copyFrom (E : ms_En) (u : ms_St) (o : Nat) (a1 : Nat) (post : ms_St → Prop) : Prop := ∀ w20 : ms_St, w20 = (ms_sA (ms_sI u o 0 (ms_I u a1 0)) (ms_at E o 1) (va_cpy (ms_I (ms_sI u o 0 (ms_I u a1 0)) (ms_at E a1 1)) (ms_I (ms_sI u o 0 (ms_I u a1 0)) (ms_at E o 1)) 0 0 16)) → (∀ w35 : ms_St, w35 = (ms_sA w20 (ms_at E o 2) (va_cpy (ms_I w20 (ms_at E a1 2)) (ms_I w20 (ms_at E o 2)) 0 0 16)) → (∀ w50 : ms_St, w50 = (ms_sA w35 (ms_at E o 3) (va_cpy (ms_I w35 (ms_at E a1 3)) (ms_I w35 (ms_at E o 3)) 0 0 16)) → (∀ w65 : ms_St, w65 = (ms_sA w50 (ms_at E o 4) (va_cpy (ms_I w50 (ms_at E a1 4)) (ms_I w50 (ms_at E o 4)) 0 0 16)) → (∀ w80 : ms_St, w80 = (ms_sA w65 (ms_at E o 5) (va_cpy (ms_I w65 (ms_at E a1 5)) (ms_I w65 (ms_at E o 5)) 0 0 16)) → (∀ w95 : ms_St, w95 = (ms_sA w80 (ms_at E o 6) (va_cpy (ms_I w80 (ms_at E a1 6)) (ms_I w80 (ms_at E o 6)) 0 0 16)) → (∀ w110 : ms_St, w110 = (ms_sA w95 (ms_at E o 8) (va_cpy (ms_I w95 (ms_at E a1 8)) (ms_I w95 (ms_at E o 8)) 0 0 64)) → (∃ n115, wp_X0_copyFrom_115 E o a1 post n115 w110 0)))))))
set_option maxHeartbeats 4000000 in
set_option maxRecDepth 100000 in
theorem c_X0_copyFrom (l : Launch) (G : va_G) (cy : Nat → ClassId) (L : Nat → Nat) (E : ms_En) (hE : ms_WT E) (u : ms_St) (o : Nat) (a1 : Nat) (ho : ms_is E o 0) (ha1 : ms_is E a1 0) (post : ms_St → Prop) (h : wp_X0_copyFrom E u o a1 post) : ms_MetV l ⟨"CensusWalk$Houses", "copyFrom", "(LCensusWalk$Houses;)V"⟩ (Cond.code ⟨"CensusWalk$Houses", "copyFrom", "(LCensusWalk$Houses;)V"⟩ prog_2_method_6_code 3 none :: lw_g) ({ frames := 1, cells := 0, slots := 0, locals := 60 } : Room) G cy L E [.ref (L o), .ref (L a1)] u post 0 0 := by
  refine ms_enterV (lv := [(0, .ref (L o)), (1, .ref (L a1))]) (by decide) (Nat.le_of_ble_eq_true rfl) rfl ?_
  intro p e s m args below meth c A C hr hlocks
  unfold wp_X0_copyFrom at h
  refine a_aload_n C dX0_copyFrom_0 rfl 0 rfl rfl ?_
  refine a_aload_n C dX0_copyFrom_1 rfl 1 rfl rfl ?_
  refine g_0_0 C dX0_copyFrom_2 ha1 kw_1_82 rfl ?_
  refine s_0_0 C dX0_copyFrom_5 ho kw_1_82 rfl ?_
  refine a_aload_n C dX0_copyFrom_8 rfl 1 rfl rfl ?_
  refine g_0_1 C hE dX0_copyFrom_9 ha1 kw_1_87 rfl ?_
  have k9 : ms_is E (ms_at E a1 1) 13 := ms_wt hE ha1 rfl (by decide)
  have n9 : ms_N E (ms_at E a1 1) = 16 := ms_wl hE ha1 (by decide) (by decide) rfl
  refine a_iconst (v := 0) C dX0_copyFrom_12 (by decide) rfl ?_
  refine a_aload_n C dX0_copyFrom_13 rfl 0 rfl rfl ?_
  refine g_0_1 C hE dX0_copyFrom_14 ho kw_1_87 rfl ?_
  have k14 : ms_is E (ms_at E o 1) 13 := ms_wt hE ho rfl (by decide)
  have n14 : ms_N E (ms_at E o 1) = 16 := ms_wl hE ho (by decide) (by decide) rfl
  refine a_iconst (v := 0) C dX0_copyFrom_17 (by decide) rfl ?_
  refine a_bipush (v := 16) C dX0_copyFrom_18 (by decide) rfl ?_
  have q20 : ¬ (0 : Int32) < 0 ∧ ¬ (0 : Int32) < 0 ∧ ¬ (16 : Int32) < 0 ∧ (0 : Int32).toNatClampNeg + (16 : Int32).toNatClampNeg ≤ 16 ∧ (0 : Int32).toNatClampNeg + (16 : Int32).toNatClampNeg ≤ 16 := by decide
  refine a_copyi C dX0_copyFrom_20 k9 k14 n9 n14 kw_3_113 kw_3_108 kw_3_107 kw_1_22 q20.1 q20.2.1 q20.2.2.1 q20.2.2.2.1 q20.2.2.2.2 (Nat.le_of_ble_eq_true rfl) (Nat.le_of_ble_eq_true rfl) rfl ?_
  refine a_nmU (fun w20 e20 => ?_)
  replace h := h w20 e20
  refine a_aload_n C dX0_copyFrom_23 rfl 1 rfl rfl ?_
  refine g_0_2 C hE dX0_copyFrom_24 ha1 kw_1_91 rfl ?_
  have k24 : ms_is E (ms_at E a1 2) 13 := ms_wt hE ha1 rfl (by decide)
  have n24 : ms_N E (ms_at E a1 2) = 16 := ms_wl hE ha1 (by decide) (by decide) rfl
  refine a_iconst (v := 0) C dX0_copyFrom_27 (by decide) rfl ?_
  refine a_aload_n C dX0_copyFrom_28 rfl 0 rfl rfl ?_
  refine g_0_2 C hE dX0_copyFrom_29 ho kw_1_91 rfl ?_
  have k29 : ms_is E (ms_at E o 2) 13 := ms_wt hE ho rfl (by decide)
  have n29 : ms_N E (ms_at E o 2) = 16 := ms_wl hE ho (by decide) (by decide) rfl
  refine a_iconst (v := 0) C dX0_copyFrom_32 (by decide) rfl ?_
  refine a_bipush (v := 16) C dX0_copyFrom_33 (by decide) rfl ?_
  have q35 : ¬ (0 : Int32) < 0 ∧ ¬ (0 : Int32) < 0 ∧ ¬ (16 : Int32) < 0 ∧ (0 : Int32).toNatClampNeg + (16 : Int32).toNatClampNeg ≤ 16 ∧ (0 : Int32).toNatClampNeg + (16 : Int32).toNatClampNeg ≤ 16 := by decide
  refine a_copyi C dX0_copyFrom_35 k24 k29 n24 n29 kw_3_113 kw_3_108 kw_3_107 kw_1_22 q35.1 q35.2.1 q35.2.2.1 q35.2.2.2.1 q35.2.2.2.2 (Nat.le_of_ble_eq_true rfl) (Nat.le_of_ble_eq_true rfl) rfl ?_
  refine a_nmU (fun w35 e35 => ?_)
  replace h := h w35 e35
  refine a_aload_n C dX0_copyFrom_38 rfl 1 rfl rfl ?_
  refine g_0_3 C hE dX0_copyFrom_39 ha1 kw_1_94 rfl ?_
  have k39 : ms_is E (ms_at E a1 3) 13 := ms_wt hE ha1 rfl (by decide)
  have n39 : ms_N E (ms_at E a1 3) = 16 := ms_wl hE ha1 (by decide) (by decide) rfl
  refine a_iconst (v := 0) C dX0_copyFrom_42 (by decide) rfl ?_
  refine a_aload_n C dX0_copyFrom_43 rfl 0 rfl rfl ?_
  refine g_0_3 C hE dX0_copyFrom_44 ho kw_1_94 rfl ?_
  have k44 : ms_is E (ms_at E o 3) 13 := ms_wt hE ho rfl (by decide)
  have n44 : ms_N E (ms_at E o 3) = 16 := ms_wl hE ho (by decide) (by decide) rfl
  refine a_iconst (v := 0) C dX0_copyFrom_47 (by decide) rfl ?_
  refine a_bipush (v := 16) C dX0_copyFrom_48 (by decide) rfl ?_
  have q50 : ¬ (0 : Int32) < 0 ∧ ¬ (0 : Int32) < 0 ∧ ¬ (16 : Int32) < 0 ∧ (0 : Int32).toNatClampNeg + (16 : Int32).toNatClampNeg ≤ 16 ∧ (0 : Int32).toNatClampNeg + (16 : Int32).toNatClampNeg ≤ 16 := by decide
  refine a_copyi C dX0_copyFrom_50 k39 k44 n39 n44 kw_3_113 kw_3_108 kw_3_107 kw_1_22 q50.1 q50.2.1 q50.2.2.1 q50.2.2.2.1 q50.2.2.2.2 (Nat.le_of_ble_eq_true rfl) (Nat.le_of_ble_eq_true rfl) rfl ?_
  refine a_nmU (fun w50 e50 => ?_)
  replace h := h w50 e50
  refine a_aload_n C dX0_copyFrom_53 rfl 1 rfl rfl ?_
  refine g_0_4 C hE dX0_copyFrom_54 ha1 kw_1_97 rfl ?_
  have k54 : ms_is E (ms_at E a1 4) 13 := ms_wt hE ha1 rfl (by decide)
  have n54 : ms_N E (ms_at E a1 4) = 16 := ms_wl hE ha1 (by decide) (by decide) rfl
  refine a_iconst (v := 0) C dX0_copyFrom_57 (by decide) rfl ?_
  refine a_aload_n C dX0_copyFrom_58 rfl 0 rfl rfl ?_
  refine g_0_4 C hE dX0_copyFrom_59 ho kw_1_97 rfl ?_
  have k59 : ms_is E (ms_at E o 4) 13 := ms_wt hE ho rfl (by decide)
  have n59 : ms_N E (ms_at E o 4) = 16 := ms_wl hE ho (by decide) (by decide) rfl
  refine a_iconst (v := 0) C dX0_copyFrom_62 (by decide) rfl ?_
  refine a_bipush (v := 16) C dX0_copyFrom_63 (by decide) rfl ?_
  have q65 : ¬ (0 : Int32) < 0 ∧ ¬ (0 : Int32) < 0 ∧ ¬ (16 : Int32) < 0 ∧ (0 : Int32).toNatClampNeg + (16 : Int32).toNatClampNeg ≤ 16 ∧ (0 : Int32).toNatClampNeg + (16 : Int32).toNatClampNeg ≤ 16 := by decide
  refine a_copyi C dX0_copyFrom_65 k54 k59 n54 n59 kw_3_113 kw_3_108 kw_3_107 kw_1_22 q65.1 q65.2.1 q65.2.2.1 q65.2.2.2.1 q65.2.2.2.2 (Nat.le_of_ble_eq_true rfl) (Nat.le_of_ble_eq_true rfl) rfl ?_
  refine a_nmU (fun w65 e65 => ?_)
  replace h := h w65 e65
  refine a_aload_n C dX0_copyFrom_68 rfl 1 rfl rfl ?_
  refine g_0_5 C hE dX0_copyFrom_69 ha1 kw_1_100 rfl ?_
  have k69 : ms_is E (ms_at E a1 5) 13 := ms_wt hE ha1 rfl (by decide)
  have n69 : ms_N E (ms_at E a1 5) = 16 := ms_wl hE ha1 (by decide) (by decide) rfl
  refine a_iconst (v := 0) C dX0_copyFrom_72 (by decide) rfl ?_
  refine a_aload_n C dX0_copyFrom_73 rfl 0 rfl rfl ?_
  refine g_0_5 C hE dX0_copyFrom_74 ho kw_1_100 rfl ?_
  have k74 : ms_is E (ms_at E o 5) 13 := ms_wt hE ho rfl (by decide)
  have n74 : ms_N E (ms_at E o 5) = 16 := ms_wl hE ho (by decide) (by decide) rfl
  refine a_iconst (v := 0) C dX0_copyFrom_77 (by decide) rfl ?_
  refine a_bipush (v := 16) C dX0_copyFrom_78 (by decide) rfl ?_
  have q80 : ¬ (0 : Int32) < 0 ∧ ¬ (0 : Int32) < 0 ∧ ¬ (16 : Int32) < 0 ∧ (0 : Int32).toNatClampNeg + (16 : Int32).toNatClampNeg ≤ 16 ∧ (0 : Int32).toNatClampNeg + (16 : Int32).toNatClampNeg ≤ 16 := by decide
  refine a_copyi C dX0_copyFrom_80 k69 k74 n69 n74 kw_3_113 kw_3_108 kw_3_107 kw_1_22 q80.1 q80.2.1 q80.2.2.1 q80.2.2.2.1 q80.2.2.2.2 (Nat.le_of_ble_eq_true rfl) (Nat.le_of_ble_eq_true rfl) rfl ?_
  refine a_nmU (fun w80 e80 => ?_)
  replace h := h w80 e80
  refine a_aload_n C dX0_copyFrom_83 rfl 1 rfl rfl ?_
  refine g_0_6 C hE dX0_copyFrom_84 ha1 kw_1_104 rfl ?_
  have k84 : ms_is E (ms_at E a1 6) 13 := ms_wt hE ha1 rfl (by decide)
  have n84 : ms_N E (ms_at E a1 6) = 16 := ms_wl hE ha1 (by decide) (by decide) rfl
  refine a_iconst (v := 0) C dX0_copyFrom_87 (by decide) rfl ?_
  refine a_aload_n C dX0_copyFrom_88 rfl 0 rfl rfl ?_
  refine g_0_6 C hE dX0_copyFrom_89 ho kw_1_104 rfl ?_
  have k89 : ms_is E (ms_at E o 6) 13 := ms_wt hE ho rfl (by decide)
  have n89 : ms_N E (ms_at E o 6) = 16 := ms_wl hE ho (by decide) (by decide) rfl
  refine a_iconst (v := 0) C dX0_copyFrom_92 (by decide) rfl ?_
  refine a_bipush (v := 16) C dX0_copyFrom_93 (by decide) rfl ?_
  have q95 : ¬ (0 : Int32) < 0 ∧ ¬ (0 : Int32) < 0 ∧ ¬ (16 : Int32) < 0 ∧ (0 : Int32).toNatClampNeg + (16 : Int32).toNatClampNeg ≤ 16 ∧ (0 : Int32).toNatClampNeg + (16 : Int32).toNatClampNeg ≤ 16 := by decide
  refine a_copyi C dX0_copyFrom_95 k84 k89 n84 n89 kw_3_113 kw_3_108 kw_3_107 kw_1_22 q95.1 q95.2.1 q95.2.2.1 q95.2.2.2.1 q95.2.2.2.2 (Nat.le_of_ble_eq_true rfl) (Nat.le_of_ble_eq_true rfl) rfl ?_
  refine a_nmU (fun w95 e95 => ?_)
  replace h := h w95 e95
  refine a_aload_n C dX0_copyFrom_98 rfl 1 rfl rfl ?_
  refine g_0_8 C hE dX0_copyFrom_99 ha1 kw_1_111 rfl ?_
  have k99 : ms_is E (ms_at E a1 8) 13 := ms_wt hE ha1 rfl (by decide)
  have n99 : ms_N E (ms_at E a1 8) = 64 := ms_wl hE ha1 (by decide) (by decide) rfl
  refine a_iconst (v := 0) C dX0_copyFrom_102 (by decide) rfl ?_
  refine a_aload_n C dX0_copyFrom_103 rfl 0 rfl rfl ?_
  refine g_0_8 C hE dX0_copyFrom_104 ho kw_1_111 rfl ?_
  have k104 : ms_is E (ms_at E o 8) 13 := ms_wt hE ho rfl (by decide)
  have n104 : ms_N E (ms_at E o 8) = 64 := ms_wl hE ho (by decide) (by decide) rfl
  refine a_iconst (v := 0) C dX0_copyFrom_107 (by decide) rfl ?_
  refine a_bipush (v := 64) C dX0_copyFrom_108 (by decide) rfl ?_
  have q110 : ¬ (0 : Int32) < 0 ∧ ¬ (0 : Int32) < 0 ∧ ¬ (64 : Int32) < 0 ∧ (0 : Int32).toNatClampNeg + (64 : Int32).toNatClampNeg ≤ 64 ∧ (0 : Int32).toNatClampNeg + (64 : Int32).toNatClampNeg ≤ 64 := by decide
  refine a_copyi C dX0_copyFrom_110 k99 k104 n99 n104 kw_3_113 kw_3_108 kw_3_107 kw_1_22 q110.1 q110.2.1 q110.2.2.1 q110.2.2.2.1 q110.2.2.2.2 (Nat.le_of_ble_eq_true rfl) (Nat.le_of_ble_eq_true rfl) rfl ?_
  refine a_nmU (fun w110 e110 => ?_)
  replace h := h w110 e110
  refine a_iconst (v := 0) C dX0_copyFrom_113 (by decide) rfl ?_
  refine a_istore_n (lv' := [(0, .ref (L o)), (1, .ref (L a1)), (2, .int 0)]) C dX0_copyFrom_114 rfl (by decide) [1, 2, 0] rfl rfl ?_
  obtain ⟨n9, h⟩ := h
  exact c_X0_copyFrom_115 C hr hlocks hE ho ha1  n9 w110 0  h

/-! CensusWalk$Town.clear()V -/
theorem pd_X7_clear : (⟨"CensusWalk$Town", "clear", "()V"⟩ : MethodName).cls = "CensusWalk$Town" ∧ (⟨"CensusWalk$Town", "clear", "()V"⟩ : MethodName).cls ≠ "java/lang/invoke/MethodHandle" ∧ (⟨"CensusWalk$Town", "clear", "()V"⟩ : MethodName).cls ≠ "java/lang/invoke/VarHandle" ∧ (parseMethodDescriptor (⟨"CensusWalk$Town", "clear", "()V"⟩ : MethodName).desc).map (fun d => d.parameters.length) = some 0 := by decide +kernel
def wp_X7_clear (E : ms_En) (u : ms_St) (o : Nat) (post : ms_St → Prop) : Prop := ∀ w29 : ms_St, w29 = (ms_sI (ms_sI (ms_sI (ms_sI (ms_sI u o 0 0) o 1 0) o 2 60) (ms_at E o 3) 0 0) (ms_at E o 4) 0 0) → (post (ms_sI w29 (ms_at E o 5) 0 0))
set_option maxHeartbeats 4000000 in
set_option maxRecDepth 100000 in
theorem c_X7_clear (l : Launch) (G : va_G) (cy : Nat → ClassId) (L : Nat → Nat) (E : ms_En) (hE : ms_WT E) (u : ms_St) (o : Nat) (ho : ms_is E o 7) (post : ms_St → Prop) (h : wp_X7_clear E u o post) : ms_MetV l ⟨"CensusWalk$Town", "clear", "()V"⟩ (Cond.code ⟨"CensusWalk$Town", "clear", "()V"⟩ prog_9_method_2_code 1 none :: lw_g) ({ frames := 0, cells := 0, slots := 0, locals := 0 } : Room) G cy L E [.ref (L o)] u post 0 0 := by
  refine ms_enterV (lv := [(0, .ref (L o))]) (by decide) (Nat.le_of_ble_eq_true rfl) rfl ?_
  intro p e s m args below meth c A C hr hlocks
  unfold wp_X7_clear at h
  refine a_aload_n C dX7_clear_0 rfl 0 rfl rfl ?_
  refine a_iconst (v := 0) C dX7_clear_1 (by decide) rfl ?_
  refine s_7_0 C dX7_clear_2 ho kw_1_165 rfl ?_
  refine a_aload_n C dX7_clear_5 rfl 0 rfl rfl ?_
  refine a_iconst (v := 0) C dX7_clear_6 (by decide) rfl ?_
  refine s_7_1 C dX7_clear_7 ho kw_1_169 rfl ?_
  refine a_aload_n C dX7_clear_10 rfl 0 rfl rfl ?_
  refine a_bipush (v := 60) C dX7_clear_11 (by decide) rfl ?_
  refine s_7_2 C dX7_clear_13 ho kw_1_172 rfl ?_
  refine a_aload_n C dX7_clear_16 rfl 0 rfl rfl ?_
  refine g_7_3 C hE dX7_clear_17 ho kw_1_175 rfl ?_
  have k17 : ms_is E (ms_at E o 3) 5 := ms_wt hE ho rfl (by decide)
  refine a_iconst (v := 0) C dX7_clear_20 (by decide) rfl ?_
  refine s_5_0 C dX7_clear_21 k17 kw_1_48 rfl ?_
  refine a_aload_n C dX7_clear_24 rfl 0 rfl rfl ?_
  refine g_7_4 C hE dX7_clear_25 ho kw_1_179 rfl ?_
  have k25 : ms_is E (ms_at E o 4) 0 := ms_wt hE ho rfl (by decide)
  refine a_iconst (v := 0) C dX7_clear_28 (by decide) rfl ?_
  refine s_0_0 C dX7_clear_29 k25 kw_1_83 rfl ?_
  refine a_nmU (fun w29 e29 => ?_)
  replace h := h w29 e29
  refine a_aload_n C dX7_clear_32 rfl 0 rfl rfl ?_
  refine g_7_5 C hE dX7_clear_33 ho kw_1_185 rfl ?_
  have k33 : ms_is E (ms_at E o 5) 9 := ms_wt hE ho rfl (by decide)
  refine a_iconst (v := 0) C dX7_clear_36 (by decide) rfl ?_
  refine s_9_0 C dX7_clear_37 k33 kw_1_139 rfl ?_
  exact a_vret C dX7_clear_40 hr hlocks (Nat.le_of_ble_eq_true rfl) (Nat.le_of_ble_eq_true rfl) h

/-! CensusWalk$Town.copyFrom(LCensusWalk$Town;)V -/
theorem pd_X7_copyFrom : (⟨"CensusWalk$Town", "copyFrom", "(LCensusWalk$Town;)V"⟩ : MethodName).cls = "CensusWalk$Town" ∧ (⟨"CensusWalk$Town", "copyFrom", "(LCensusWalk$Town;)V"⟩ : MethodName).cls ≠ "java/lang/invoke/MethodHandle" ∧ (⟨"CensusWalk$Town", "copyFrom", "(LCensusWalk$Town;)V"⟩ : MethodName).cls ≠ "java/lang/invoke/VarHandle" ∧ (parseMethodDescriptor (⟨"CensusWalk$Town", "copyFrom", "(LCensusWalk$Town;)V"⟩ : MethodName).desc).map (fun d => d.parameters.length) = some 1 := by decide +kernel
def wp_X7_copyFrom (E : ms_En) (u : ms_St) (o : Nat) (a1 : Nat) (post : ms_St → Prop) : Prop := ∀ w21 : ms_St, w21 = (ms_sI (ms_sI (ms_sI u o 0 (ms_I u a1 0)) o 1 (ms_I (ms_sI u o 0 (ms_I u a1 0)) a1 1)) o 2 (ms_I (ms_sI (ms_sI u o 0 (ms_I u a1 0)) o 1 (ms_I (ms_sI u o 0 (ms_I u a1 0)) a1 1)) a1 2)) → (wp_X5_copyFrom E w21 (ms_at E o 3) (ms_at E a1 3) (fun u32 => wp_X0_copyFrom E u32 (ms_at E o 4) (ms_at E a1 4) (fun u43 => wp_X9_copyFrom E u43 (ms_at E o 5) (ms_at E a1 5) (fun u54 => post u54))))
set_option maxHeartbeats 4000000 in
set_option maxRecDepth 100000 in
theorem c_X7_copyFrom (l : Launch) (G : va_G) (cy : Nat → ClassId) (L : Nat → Nat) (E : ms_En) (hE : ms_WT E) (u : ms_St) (o : Nat) (a1 : Nat) (ho : ms_is E o 7) (ha1 : ms_is E a1 7) (post : ms_St → Prop) (h : wp_X7_copyFrom E u o a1 post) : ms_MetV l ⟨"CensusWalk$Town", "copyFrom", "(LCensusWalk$Town;)V"⟩ (Cond.code ⟨"CensusWalk$Town", "copyFrom", "(LCensusWalk$Town;)V"⟩ prog_9_method_3_code 2 none :: lw_g) ({ frames := 2, cells := 0, slots := 0, locals := 82 } : Room) G cy L E [.ref (L o), .ref (L a1)] u post 0 0 := by
  refine ms_enterV (lv := [(0, .ref (L o)), (1, .ref (L a1))]) (by decide) (Nat.le_of_ble_eq_true rfl) rfl ?_
  intro p e s m args below meth c A C hr hlocks
  unfold wp_X7_copyFrom at h
  refine a_aload_n C dX7_copyFrom_0 rfl 0 rfl rfl ?_
  refine a_aload_n C dX7_copyFrom_1 rfl 1 rfl rfl ?_
  refine g_7_0 C dX7_copyFrom_2 ha1 kw_1_165 rfl ?_
  refine s_7_0 C dX7_copyFrom_5 ho kw_1_165 rfl ?_
  refine a_aload_n C dX7_copyFrom_8 rfl 0 rfl rfl ?_
  refine a_aload_n C dX7_copyFrom_9 rfl 1 rfl rfl ?_
  refine g_7_1 C dX7_copyFrom_10 ha1 kw_1_169 rfl ?_
  refine s_7_1 C dX7_copyFrom_13 ho kw_1_169 rfl ?_
  refine a_aload_n C dX7_copyFrom_16 rfl 0 rfl rfl ?_
  refine a_aload_n C dX7_copyFrom_17 rfl 1 rfl rfl ?_
  refine g_7_2 C dX7_copyFrom_18 ha1 kw_1_172 rfl ?_
  refine s_7_2 C dX7_copyFrom_21 ho kw_1_172 rfl ?_
  refine a_nmU (fun w21 e21 => ?_)
  replace h := h w21 e21
  refine a_aload_n C dX7_copyFrom_24 rfl 0 rfl rfl ?_
  refine g_7_3 C hE dX7_copyFrom_25 ho kw_1_175 rfl ?_
  have k25 : ms_is E (ms_at E o 3) 5 := ms_wt hE ho rfl (by decide)
  refine a_aload_n C dX7_copyFrom_28 rfl 1 rfl rfl ?_
  refine g_7_3 C hE dX7_copyFrom_29 ha1 kw_1_175 rfl ?_
  have k29 : ms_is E (ms_at E a1 3) 5 := ms_wt hE ha1 rfl (by decide)
  refine a_callVV C (c_X5_copyFrom l G cy L E hE w21 (ms_at E o 3) (ms_at E a1 3) k25 k29 _ h) k25 rfl (by decide) kw_3_102 kw_3_103 kw_3_104 kw_1_3 kw_3_105 rfl rfl pd_X5_copyFrom ⟨(Nat.le_of_ble_eq_true rfl), (Nat.le_of_ble_eq_true rfl)⟩ dX7_copyFrom_32 rfl (Nat.le_of_ble_eq_true rfl) ⟨(Nat.le_of_ble_eq_true rfl), (Nat.le_of_ble_eq_true rfl)⟩ rfl (fun u32 h => ?_)
  refine a_aload_n C dX7_copyFrom_35 rfl 0 rfl rfl ?_
  refine g_7_4 C hE dX7_copyFrom_36 ho kw_1_179 rfl ?_
  have k36 : ms_is E (ms_at E o 4) 0 := ms_wt hE ho rfl (by decide)
  refine a_aload_n C dX7_copyFrom_39 rfl 1 rfl rfl ?_
  refine g_7_4 C hE dX7_copyFrom_40 ha1 kw_1_179 rfl ?_
  have k40 : ms_is E (ms_at E a1 4) 0 := ms_wt hE ha1 rfl (by decide)
  refine a_callVV C (c_X0_copyFrom l G cy L E hE u32 (ms_at E o 4) (ms_at E a1 4) k36 k40 _ h) k36 rfl (by decide) kw_3_109 kw_3_110 kw_3_111 kw_1_4 kw_3_112 rfl rfl pd_X0_copyFrom ⟨(Nat.le_of_ble_eq_true rfl), (Nat.le_of_ble_eq_true rfl)⟩ dX7_copyFrom_43 rfl (Nat.le_of_ble_eq_true rfl) ⟨(Nat.le_of_ble_eq_true rfl), (Nat.le_of_ble_eq_true rfl)⟩ rfl (fun u43 h => ?_)
  refine a_aload_n C dX7_copyFrom_46 rfl 0 rfl rfl ?_
  refine g_7_5 C hE dX7_copyFrom_47 ho kw_1_185 rfl ?_
  have k47 : ms_is E (ms_at E o 5) 9 := ms_wt hE ho rfl (by decide)
  refine a_aload_n C dX7_copyFrom_50 rfl 1 rfl rfl ?_
  refine g_7_5 C hE dX7_copyFrom_51 ha1 kw_1_185 rfl ?_
  have k51 : ms_is E (ms_at E a1 5) 9 := ms_wt hE ha1 rfl (by decide)
  refine a_callVV C (c_X9_copyFrom l G cy L E hE u43 (ms_at E o 5) (ms_at E a1 5) k47 k51 _ h) k47 rfl (by decide) kw_3_114 kw_3_115 kw_3_116 kw_1_5 kw_3_117 rfl rfl pd_X9_copyFrom ⟨(Nat.le_of_ble_eq_true rfl), (Nat.le_of_ble_eq_true rfl)⟩ dX7_copyFrom_54 rfl (Nat.le_of_ble_eq_true rfl) ⟨(Nat.le_of_ble_eq_true rfl), (Nat.le_of_ble_eq_true rfl)⟩ rfl (fun u54 h => ?_)
  exact a_vret C dX7_copyFrom_57 hr hlocks (Nat.le_of_ble_eq_true rfl) (Nat.le_of_ble_eq_true rfl) h
