theorem pd_X11_sum : (⟨"CensusWalkModel", "sum", "()V"⟩ : MethodName).cls = "CensusWalkModel" ∧ (⟨"CensusWalkModel", "sum", "()V"⟩ : MethodName).cls ≠ "java/lang/invoke/MethodHandle" ∧ (⟨"CensusWalkModel", "sum", "()V"⟩ : MethodName).cls ≠ "java/lang/invoke/VarHandle" ∧ (parseMethodDescriptor (⟨"CensusWalkModel", "sum", "()V"⟩ : MethodName).desc).map (fun d => d.parameters.length) = some 0 := by decide +kernel
/-! CensusWalkModel.factor()V -/
theorem pd_X11_factor : (⟨"CensusWalkModel", "factor", "()V"⟩ : MethodName).cls = "CensusWalkModel" ∧ (⟨"CensusWalkModel", "factor", "()V"⟩ : MethodName).cls ≠ "java/lang/invoke/MethodHandle" ∧ (⟨"CensusWalkModel", "factor", "()V"⟩ : MethodName).cls ≠ "java/lang/invoke/VarHandle" ∧ (parseMethodDescriptor (⟨"CensusWalkModel", "factor", "()V"⟩ : MethodName).desc).map (fun d => d.parameters.length) = some 0 := by decide +kernel
def wp_X11_factor_157 (E : ms_En) (rec : ms_St → Nat → (ms_St → Prop) → Prop) (o : Nat) (post : ms_St → Prop)  (u : ms_St) (x3 : Int32) (z0 : Int32) (z1 : Nat) : Prop := wp_X11_emit E u z1 z0 (fun u157 => wp_X11_emit E u157 o x3 (fun u162 => post u162))
set_option maxHeartbeats 4000000 in
set_option maxRecDepth 100000 in
theorem c_X11_factor_157 {p : Program} {l : Launch} {e : Env} {s : State} {m : MethodId} {args : Array Value} {below : List Frame} {meth : Method} {c : Code} {G : va_G} {cy : Nat → ClassId} {A : Nat → Prop} {L : Nat → Nat} {E : ms_En} (C : ms_Cx p m c cX11_factor 4 s args (Cond.code ⟨"CensusWalkModel", "factor", "()V"⟩ prog_13_method_20_code 4 none) "CensusWalkModel" G cy A) (hr : meth.sig.returnType = none) (hlocks : meth.locks = false) (hE : ms_WT E) {d : Nat} {rec : ms_St → Nat → (ms_St → Prop) → Prop} (hrec : ∀ (u : ms_St) (o : Nat) (post : ms_St → Prop), ms_is E o 11 → rec u o post → ms_MetV l ⟨"CensusWalkModel", "sum", "()V"⟩ (Cond.code ⟨"CensusWalkModel", "sum", "()V"⟩ prog_13_method_22_code 2 none :: lw_g) (ms_rm d 0) G cy L E [.ref (L o)] u post 0 0) {o : Nat} {post : ms_St → Prop}  (ho : ms_is E o 11)  (u : ms_St) (x3 : Int32) (z0 : Int32) (z1 : Nat) (k_z1 : ms_is E z1 11) (h : wp_X11_factor_157 E rec o post u x3 z0 z1) : ms_At p l e (ms_rm d 1) s m args below meth c 4 G cy A L 0 0 (ms_QV below args s G cy L E A post 0 0) E u 157 [(0, .ref (L o)), (3, .int x3)] [.int z0, .ref (L z1)] := by
  unfold wp_X11_factor_157 at h
  refine a_callVV C (c_X11_emit l G cy L E hE u z1 z0 k_z1 _ h) k_z1 rfl (by decide) kw_6_193 kw_6_195 kp_59 kw_1_12 kw_6_196 rfl rfl pd_X11_emit ⟨(by simp only [ms_rm]; omega), (by simp only [ms_rm]; omega)⟩ dX11_factor_157 rfl (Nat.le_of_ble_eq_true rfl) ⟨(Nat.le_of_ble_eq_true rfl), (Nat.le_of_ble_eq_true rfl)⟩ rfl (fun u157 h => ?_)
  refine a_aload_n C dX11_factor_160 rfl 0 rfl rfl ?_
  refine a_iload_n C dX11_factor_161 rfl 1 rfl rfl ?_
  refine a_callVV C (c_X11_emit l G cy L E hE u157 o x3 ho _ h) ho rfl (by decide) kw_6_193 kw_6_195 kp_59 kw_1_12 kw_6_196 rfl rfl pd_X11_emit ⟨(by simp only [ms_rm]; omega), (by simp only [ms_rm]; omega)⟩ dX11_factor_162 rfl (Nat.le_of_ble_eq_true rfl) ⟨(Nat.le_of_ble_eq_true rfl), (Nat.le_of_ble_eq_true rfl)⟩ rfl (fun u162 h => ?_)
  exact a_vret C dX11_factor_165 hr hlocks (Nat.le_of_ble_eq_true rfl) (Nat.le_of_ble_eq_true rfl) h
def wp_X11_factor_146 (E : ms_En) (rec : ms_St → Nat → (ms_St → Prop) → Prop) (o : Nat) (post : ms_St → Prop)  (u : ms_St) (x2 : Int32) (z0 : Int32) : Prop := (0 ≤ x2 → wp_X11_factor_157 E rec o post u z0 1 o) ∧ (¬ 0 ≤ x2 → wp_X11_factor_157 E rec o post u z0 0 o)
set_option maxHeartbeats 4000000 in
set_option maxRecDepth 100000 in
theorem c_X11_factor_146 {p : Program} {l : Launch} {e : Env} {s : State} {m : MethodId} {args : Array Value} {below : List Frame} {meth : Method} {c : Code} {G : va_G} {cy : Nat → ClassId} {A : Nat → Prop} {L : Nat → Nat} {E : ms_En} (C : ms_Cx p m c cX11_factor 4 s args (Cond.code ⟨"CensusWalkModel", "factor", "()V"⟩ prog_13_method_20_code 4 none) "CensusWalkModel" G cy A) (hr : meth.sig.returnType = none) (hlocks : meth.locks = false) (hE : ms_WT E) {d : Nat} {rec : ms_St → Nat → (ms_St → Prop) → Prop} (hrec : ∀ (u : ms_St) (o : Nat) (post : ms_St → Prop), ms_is E o 11 → rec u o post → ms_MetV l ⟨"CensusWalkModel", "sum", "()V"⟩ (Cond.code ⟨"CensusWalkModel", "sum", "()V"⟩ prog_13_method_22_code 2 none :: lw_g) (ms_rm d 0) G cy L E [.ref (L o)] u post 0 0) {o : Nat} {post : ms_St → Prop}  (ho : ms_is E o 11)  (u : ms_St) (x2 : Int32) (z0 : Int32)  (h : wp_X11_factor_146 E rec o post u x2 z0) : ms_At p l e (ms_rm d 1) s m args below meth c 4 G cy A L 0 0 (ms_QV below args s G cy L E A post 0 0) E u 146 [(0, .ref (L o)), (2, .int x2)] [.int z0] := by
  unfold wp_X11_factor_146 at h
  refine a_istore_n (lv' := [(0, .ref (L o)), (2, .int x2), (3, .int z0)]) C dX11_factor_146 rfl (by decide) [1, 2, 0] rfl rfl ?_
  refine a_aload_n C dX11_factor_147 rfl 0 rfl rfl ?_
  refine a_iload_n C dX11_factor_148 rfl 1 rfl rfl ?_
  refine a_if_ge (tgt := 156) C dX11_factor_149 (by decide) rfl (fun hc => ?_) (fun hc => ?_)
  · replace h := h.1 hc
    refine a_iconst (v := 1) C dX11_factor_156 (by decide) rfl ?_
    refine a_sub (lv' := [(0, .ref (L o)), (3, .int z0)]) [0, 2] rfl ?_
    exact c_X11_factor_157 C hr hlocks hE hrec ho  u z0 1 o ho h
  · replace h := h.2 hc
    refine a_iconst (v := 0) C dX11_factor_152 (by decide) rfl ?_
    refine a_goto (tgt := 157) C dX11_factor_153 (by decide) ?_
    refine a_sub (lv' := [(0, .ref (L o)), (3, .int z0)]) [0, 2] rfl ?_
    exact c_X11_factor_157 C hr hlocks hE hrec ho  u z0 0 o ho h
def wp_X11_factor_129 (E : ms_En) (rec : ms_St → Nat → (ms_St → Prop) → Prop) (o : Nat) (post : ms_St → Prop)  (u : ms_St) (z0 : Int32) : Prop := (0 ≤ z0 → wp_X11_factor_146 E rec o post u z0 z0) ∧ (¬ 0 ≤ z0 → wp_X11_number E u o 0 9999 (fun r139 u139 => wp_X11_factor_146 E rec o post u139 z0 r139))
set_option maxHeartbeats 4000000 in
set_option maxRecDepth 100000 in
theorem c_X11_factor_129 {p : Program} {l : Launch} {e : Env} {s : State} {m : MethodId} {args : Array Value} {below : List Frame} {meth : Method} {c : Code} {G : va_G} {cy : Nat → ClassId} {A : Nat → Prop} {L : Nat → Nat} {E : ms_En} (C : ms_Cx p m c cX11_factor 4 s args (Cond.code ⟨"CensusWalkModel", "factor", "()V"⟩ prog_13_method_20_code 4 none) "CensusWalkModel" G cy A) (hr : meth.sig.returnType = none) (hlocks : meth.locks = false) (hE : ms_WT E) {d : Nat} {rec : ms_St → Nat → (ms_St → Prop) → Prop} (hrec : ∀ (u : ms_St) (o : Nat) (post : ms_St → Prop), ms_is E o 11 → rec u o post → ms_MetV l ⟨"CensusWalkModel", "sum", "()V"⟩ (Cond.code ⟨"CensusWalkModel", "sum", "()V"⟩ prog_13_method_22_code 2 none :: lw_g) (ms_rm d 0) G cy L E [.ref (L o)] u post 0 0) {o : Nat} {post : ms_St → Prop}  (ho : ms_is E o 11)  (u : ms_St) (z0 : Int32)  (h : wp_X11_factor_129 E rec o post u z0) : ms_At p l e (ms_rm d 1) s m args below meth c 4 G cy A L 0 0 (ms_QV below args s G cy L E A post 0 0) E u 129 [(0, .ref (L o))] [.int z0] := by
  unfold wp_X11_factor_129 at h
  refine a_istore_n (lv' := [(0, .ref (L o)), (2, .int z0)]) C dX11_factor_129 rfl (by decide) [1, 0] rfl rfl ?_
  refine a_iload_n C dX11_factor_130 rfl 1 rfl rfl ?_
  refine a_if_ge (tgt := 145) C dX11_factor_131 (by decide) rfl (fun hc => ?_) (fun hc => ?_)
  · replace h := h.1 hc
    refine a_iload_n C dX11_factor_145 rfl 1 rfl rfl ?_
    exact c_X11_factor_146 C hr hlocks hE hrec ho  u z0 z0  h
  · replace h := h.2 hc
    refine a_aload_n C dX11_factor_134 rfl 0 rfl rfl ?_
    refine a_iconst (v := 0) C dX11_factor_135 (by decide) rfl ?_
    refine a_sipush (v := 9999) C dX11_factor_136 (by decide) rfl ?_
    refine a_callVI C (c_X11_number l G cy L E hE u o 0 9999 ho _ h) ho rfl (by decide) kw_6_128 kw_6_130 kp_49 kw_1_12 kw_6_131 rfl rfl pd_X11_number ⟨(by simp only [ms_rm]; omega), (by simp only [ms_rm]; omega)⟩ dX11_factor_139 rfl (Nat.le_of_ble_eq_true rfl) ⟨(Nat.le_of_ble_eq_true rfl), (Nat.le_of_ble_eq_true rfl)⟩ rfl (fun r139 u139 h => ?_)
    refine a_goto (tgt := 146) C dX11_factor_142 (by decide) ?_
    exact c_X11_factor_146 C hr hlocks hE hrec ho  u139 z0 r139  h
def wp_X11_factor_37 (E : ms_En) (rec : ms_St → Nat → (ms_St → Prop) → Prop) (o : Nat) (post : ms_St → Prop)  (u : ms_St)  : Prop := ∀ w54 : ms_St, w54 = (ms_sI (ms_sI u o 4 ((ms_I u o 4) + 1)) o 13 ((ms_I (ms_sI u o 4 ((ms_I u o 4) + 1)) o 13) + 1)) → (rec w54 o (fun u58 => wp_X11_expect E u58 o 41 (fun u64 => post (ms_sI u64 o 13 ((ms_I u64 o 13) - 1)))))
set_option maxHeartbeats 4000000 in
set_option maxRecDepth 100000 in
theorem c_X11_factor_37 {p : Program} {l : Launch} {e : Env} {s : State} {m : MethodId} {args : Array Value} {below : List Frame} {meth : Method} {c : Code} {G : va_G} {cy : Nat → ClassId} {A : Nat → Prop} {L : Nat → Nat} {E : ms_En} (C : ms_Cx p m c cX11_factor 4 s args (Cond.code ⟨"CensusWalkModel", "factor", "()V"⟩ prog_13_method_20_code 4 none) "CensusWalkModel" G cy A) (hr : meth.sig.returnType = none) (hlocks : meth.locks = false) (hE : ms_WT E) {d : Nat} {rec : ms_St → Nat → (ms_St → Prop) → Prop} (hrec : ∀ (u : ms_St) (o : Nat) (post : ms_St → Prop), ms_is E o 11 → rec u o post → ms_MetV l ⟨"CensusWalkModel", "sum", "()V"⟩ (Cond.code ⟨"CensusWalkModel", "sum", "()V"⟩ prog_13_method_22_code 2 none :: lw_g) (ms_rm d 0) G cy L E [.ref (L o)] u post 0 0) {o : Nat} {post : ms_St → Prop}  (ho : ms_is E o 11)  (u : ms_St)   (h : wp_X11_factor_37 E rec o post u ) : ms_At p l e (ms_rm d 1) s m args below meth c 4 G cy A L 0 0 (ms_QV below args s G cy L E A post 0 0) E u 37 [(0, .ref (L o))] [] := by
  unfold wp_X11_factor_37 at h
  refine a_aload_n C dX11_factor_37 rfl 0 rfl rfl ?_
  refine a_dup C dX11_factor_38 rfl rfl ?_
  refine g_11_4 C dX11_factor_39 ho kw_5_226 rfl ?_
  refine a_iconst (v := 1) C dX11_factor_42 (by decide) rfl ?_
  refine a_iadd C dX11_factor_43 rfl ?_
  refine s_11_4 C dX11_factor_44 ho kw_5_226 rfl ?_
  refine a_aload_n C dX11_factor_47 rfl 0 rfl rfl ?_
  refine a_dup C dX11_factor_48 rfl rfl ?_
  refine g_11_13 C dX11_factor_49 ho kw_5_235 rfl ?_
  refine a_iconst (v := 1) C dX11_factor_52 (by decide) rfl ?_
  refine a_iadd C dX11_factor_53 rfl ?_
  refine s_11_13 C dX11_factor_54 ho kw_5_235 rfl ?_
  refine a_nmU (fun w54 e54 => ?_)
  replace h := h w54 e54
  refine a_aload_n C dX11_factor_57 rfl 0 rfl rfl ?_
  refine a_callVV C (hrec w54 o _ ho h) ho rfl (by decide) kw_6_179 kw_6_181 kp_56 kw_1_12 kw_6_182 rfl rfl pd_X11_sum ⟨(by simp only [ms_rm]; omega), (by simp only [ms_rm]; omega)⟩ dX11_factor_58 rfl (Nat.le_of_ble_eq_true rfl) ⟨(Nat.le_of_ble_eq_true rfl), (Nat.le_of_ble_eq_true rfl)⟩ rfl (fun u58 h => ?_)
  refine a_aload_n C dX11_factor_61 rfl 0 rfl rfl ?_
  refine a_bipush (v := 41) C dX11_factor_62 (by decide) rfl ?_
  refine a_callVV C (c_X11_expect l G cy L E hE u58 o 41 ho _ h) ho rfl (by decide) kw_6_139 kw_6_141 kp_50 kw_1_12 kw_6_142 rfl rfl pd_X11_expect ⟨(by simp only [ms_rm]; omega), (by simp only [ms_rm]; omega)⟩ dX11_factor_64 rfl (Nat.le_of_ble_eq_true rfl) ⟨(Nat.le_of_ble_eq_true rfl), (Nat.le_of_ble_eq_true rfl)⟩ rfl (fun u64 h => ?_)
  refine a_aload_n C dX11_factor_67 rfl 0 rfl rfl ?_
  refine a_dup C dX11_factor_68 rfl rfl ?_
  refine g_11_13 C dX11_factor_69 ho kw_5_235 rfl ?_
  refine a_iconst (v := 1) C dX11_factor_72 (by decide) rfl ?_
  refine a_isub C dX11_factor_73 rfl ?_
  refine s_11_13 C dX11_factor_74 ho kw_5_235 rfl ?_
  exact a_vret C dX11_factor_77 hr hlocks (Nat.le_of_ble_eq_true rfl) (Nat.le_of_ble_eq_true rfl) h
def wp_X11_factor (E : ms_En) (rec : ms_St → Nat → (ms_St → Prop) → Prop) (u : ms_St) (o : Nat) (post : ms_St → Prop) : Prop := wp_X11_isGood E u o (fun r1 u1 => (r1 = 0 → post u1) ∧ (¬ r1 = 0 → wp_X11_next E u1 o (fun r9 u9 => (r9 = 40 → ((ms_I u9 o 13) = 4 → wp_X11_report E u9 o (-5) (ms_I u9 o 4) (fun u34 => wp_X11_factor_37 E rec o post u34)) ∧ (¬ (ms_I u9 o 13) = 4 → wp_X11_factor_37 E rec o post u9)) ∧ (¬ r9 = 40 → wp_X11_isDigit E u9 r9 (fun r79 u79 => (r79 = 0 → wp_X11_takeWord E u79 o 31 (fun r92 u92 => (r92 = 0 → wp_X11_takeWord E u92 o 26 (fun r105 u105 => (r105 = 0 → wp_X11_takeWord E u105 o 32 (fun r118 u118 => (r118 = 0 → wp_X11_factor_129 E rec o post u118 (-1)) ∧ (¬ r118 = 0 → wp_X11_factor_129 E rec o post u118 2))) ∧ (¬ r105 = 0 → wp_X11_factor_129 E rec o post u105 1))) ∧ (¬ r92 = 0 → wp_X11_factor_129 E rec o post u92 0))) ∧ (¬ r79 = 0 → wp_X11_factor_129 E rec o post u79 (-1)))))))
set_option maxHeartbeats 4000000 in
set_option maxRecDepth 100000 in
theorem c_X11_factor (l : Launch) (G : va_G) (cy : Nat → ClassId) (L : Nat → Nat) (E : ms_En) (hE : ms_WT E) {d : Nat} (rec : ms_St → Nat → (ms_St → Prop) → Prop) (hrec : ∀ (u : ms_St) (o : Nat) (post : ms_St → Prop), ms_is E o 11 → rec u o post → ms_MetV l ⟨"CensusWalkModel", "sum", "()V"⟩ (Cond.code ⟨"CensusWalkModel", "sum", "()V"⟩ prog_13_method_22_code 2 none :: lw_g) (ms_rm d 0) G cy L E [.ref (L o)] u post 0 0) (u : ms_St) (o : Nat) (ho : ms_is E o 11) (post : ms_St → Prop) (h : wp_X11_factor E rec u o post) : ms_MetV l ⟨"CensusWalkModel", "factor", "()V"⟩ (Cond.code ⟨"CensusWalkModel", "factor", "()V"⟩ prog_13_method_20_code 4 none :: lw_g) (ms_rm d 1) G cy L E [.ref (L o)] u post 0 0 := by
  refine ms_enterV (lv := [(0, .ref (L o))]) (by decide) (Nat.le_of_ble_eq_true rfl) rfl ?_
  intro p e s m args below meth c A C hr hlocks
  unfold wp_X11_factor at h
  refine a_aload_n C dX11_factor_0 rfl 0 rfl rfl ?_
  refine a_callVI C (c_X11_isGood l G cy L E hE u o ho _ h) ho rfl (by decide) kw_6_110 kw_6_112 kp_45 kw_1_12 kw_6_113 rfl rfl pd_X11_isGood ⟨(by simp only [ms_rm]; omega), (by simp only [ms_rm]; omega)⟩ dX11_factor_1 rfl (Nat.le_of_ble_eq_true rfl) ⟨(Nat.le_of_ble_eq_true rfl), (Nat.le_of_ble_eq_true rfl)⟩ rfl (fun r1 u1 h => ?_)
  refine a_if_ne (tgt := 8) C dX11_factor_4 (by decide) rfl (fun hc => ?_) (fun hc => ?_)
  · replace h := h.2 hc
    refine a_aload_n C dX11_factor_8 rfl 0 rfl rfl ?_
    refine a_callVI C (c_X11_next l G cy L E hE u1 o ho _ h) ho rfl (by decide) kw_6_114 kw_6_116 kp_46 kw_1_12 kw_6_117 rfl rfl pd_X11_next ⟨(by simp only [ms_rm]; omega), (by simp only [ms_rm]; omega)⟩ dX11_factor_9 rfl (Nat.le_of_ble_eq_true rfl) ⟨(Nat.le_of_ble_eq_true rfl), (Nat.le_of_ble_eq_true rfl)⟩ rfl (fun r9 u9 h => ?_)
    refine a_istore_n (lv' := [(0, .ref (L o)), (1, .int r9)]) C dX11_factor_12 rfl (by decide) [1, 0] rfl rfl ?_
    refine a_iload_n C dX11_factor_13 rfl 1 rfl rfl ?_
    refine a_bipush (v := 40) C dX11_factor_14 (by decide) rfl ?_
    refine a_icmp_ne (tgt := 78) C dX11_factor_16 (by decide) rfl (fun hc => ?_) (fun hc => ?_)
    · replace h := h.2 hc
      refine a_iload_n C dX11_factor_78 rfl 1 rfl rfl ?_
      refine a_callSI C (c_X11_isDigit l G cy L E hE u9 r9  _ h) kw_6_132 kw_6_133 kw_1_12 kw_6_134 rfl rfl pd_X11_isDigit ⟨(by simp only [ms_rm]; omega), (by simp only [ms_rm]; omega)⟩ dX11_factor_79 rfl (Nat.le_of_ble_eq_true rfl) ⟨(Nat.le_of_ble_eq_true rfl), (Nat.le_of_ble_eq_true rfl)⟩ rfl (fun r79 u79 h => ?_)
      refine a_if_eq (tgt := 89) C dX11_factor_82 (by decide) rfl (fun hc => ?_) (fun hc => ?_)
      · replace h := h.1 hc
        refine a_aload_n C dX11_factor_89 rfl 0 rfl rfl ?_
        refine a_ldcS (j := 31) C dX11_factor_90 rfl rfl rfl rfl ?_
        refine a_callVI C (c_X11_takeWord l G cy L E hE u79 o 31 ho (by decide) _ h) ho rfl (by decide) kw_6_106 kw_6_108 kp_44 kw_1_12 kw_6_109 rfl rfl pd_X11_takeWord ⟨(by simp only [ms_rm]; omega), (by simp only [ms_rm]; omega)⟩ dX11_factor_92 rfl (Nat.le_of_ble_eq_true rfl) ⟨(Nat.le_of_ble_eq_true rfl), (Nat.le_of_ble_eq_true rfl)⟩ rfl (fun r92 u92 h => ?_)
        refine a_if_eq (tgt := 102) C dX11_factor_95 (by decide) rfl (fun hc => ?_) (fun hc => ?_)
        · replace h := h.1 hc
          refine a_aload_n C dX11_factor_102 rfl 0 rfl rfl ?_
          refine a_ldcS (j := 26) C dX11_factor_103 rfl rfl rfl rfl ?_
          refine a_callVI C (c_X11_takeWord l G cy L E hE u92 o 26 ho (by decide) _ h) ho rfl (by decide) kw_6_106 kw_6_108 kp_44 kw_1_12 kw_6_109 rfl rfl pd_X11_takeWord ⟨(by simp only [ms_rm]; omega), (by simp only [ms_rm]; omega)⟩ dX11_factor_105 rfl (Nat.le_of_ble_eq_true rfl) ⟨(Nat.le_of_ble_eq_true rfl), (Nat.le_of_ble_eq_true rfl)⟩ rfl (fun r105 u105 h => ?_)
          refine a_if_eq (tgt := 115) C dX11_factor_108 (by decide) rfl (fun hc => ?_) (fun hc => ?_)
          · replace h := h.1 hc
            refine a_aload_n C dX11_factor_115 rfl 0 rfl rfl ?_
            refine a_ldcS (j := 32) C dX11_factor_116 rfl rfl rfl rfl ?_
            refine a_callVI C (c_X11_takeWord l G cy L E hE u105 o 32 ho (by decide) _ h) ho rfl (by decide) kw_6_106 kw_6_108 kp_44 kw_1_12 kw_6_109 rfl rfl pd_X11_takeWord ⟨(by simp only [ms_rm]; omega), (by simp only [ms_rm]; omega)⟩ dX11_factor_118 rfl (Nat.le_of_ble_eq_true rfl) ⟨(Nat.le_of_ble_eq_true rfl), (Nat.le_of_ble_eq_true rfl)⟩ rfl (fun r118 u118 h => ?_)
            refine a_if_eq (tgt := 128) C dX11_factor_121 (by decide) rfl (fun hc => ?_) (fun hc => ?_)
            · replace h := h.1 hc
              refine a_iconst (v := (-1)) C dX11_factor_128 (by decide) rfl ?_
              refine a_sub (lv' := [(0, .ref (L o))]) [0] rfl ?_
              exact c_X11_factor_129 C hr hlocks hE hrec ho  u118 (-1)  h
            · replace h := h.2 hc
              refine a_iconst (v := 2) C dX11_factor_124 (by decide) rfl ?_
              refine a_goto (tgt := 129) C dX11_factor_125 (by decide) ?_
              refine a_sub (lv' := [(0, .ref (L o))]) [0] rfl ?_
              exact c_X11_factor_129 C hr hlocks hE hrec ho  u118 2  h
          · replace h := h.2 hc
            refine a_iconst (v := 1) C dX11_factor_111 (by decide) rfl ?_
            refine a_goto (tgt := 129) C dX11_factor_112 (by decide) ?_
            refine a_sub (lv' := [(0, .ref (L o))]) [0] rfl ?_
            exact c_X11_factor_129 C hr hlocks hE hrec ho  u105 1  h
        · replace h := h.2 hc
          refine a_iconst (v := 0) C dX11_factor_98 (by decide) rfl ?_
          refine a_goto (tgt := 129) C dX11_factor_99 (by decide) ?_
          refine a_sub (lv' := [(0, .ref (L o))]) [0] rfl ?_
          exact c_X11_factor_129 C hr hlocks hE hrec ho  u92 0  h
      · replace h := h.2 hc
        refine a_iconst (v := (-1)) C dX11_factor_85 (by decide) rfl ?_
        refine a_goto (tgt := 129) C dX11_factor_86 (by decide) ?_
        refine a_sub (lv' := [(0, .ref (L o))]) [0] rfl ?_
        exact c_X11_factor_129 C hr hlocks hE hrec ho  u79 (-1)  h
    · replace h := h.1 hc
      refine a_aload_n C dX11_factor_19 rfl 0 rfl rfl ?_
      refine g_11_13 C dX11_factor_20 ho kw_5_235 rfl ?_
      refine a_iconst (v := 4) C dX11_factor_23 (by decide) rfl ?_
      refine a_icmp_ne (tgt := 37) C dX11_factor_24 (by decide) rfl (fun hc => ?_) (fun hc => ?_)
      · replace h := h.2 hc
        refine a_sub (lv' := [(0, .ref (L o))]) [0] rfl ?_
        exact c_X11_factor_37 C hr hlocks hE hrec ho  u9  h
      · replace h := h.1 hc
        refine a_aload_n C dX11_factor_27 rfl 0 rfl rfl ?_
        refine a_bipush (v := (-5)) C dX11_factor_28 (by decide) rfl ?_
        refine a_aload_n C dX11_factor_30 rfl 0 rfl rfl ?_
        refine g_11_4 C dX11_factor_31 ho kw_5_226 rfl ?_
        refine a_callVV C (c_X11_report l G cy L E hE u9 o (-5) (ms_I u9 o 4) ho _ h) ho rfl (by decide) kw_6_124 kw_6_126 kp_48 kw_1_12 kw_6_127 rfl rfl pd_X11_report ⟨(by simp only [ms_rm]; omega), (by simp only [ms_rm]; omega)⟩ dX11_factor_34 rfl (Nat.le_of_ble_eq_true rfl) ⟨(Nat.le_of_ble_eq_true rfl), (Nat.le_of_ble_eq_true rfl)⟩ rfl (fun u34 h => ?_)
        refine a_sub (lv' := [(0, .ref (L o))]) [0] rfl ?_
        exact c_X11_factor_37 C hr hlocks hE hrec ho  u34  h
  · replace h := h.1 hc
    exact a_vret C dX11_factor_7 hr hlocks (Nat.le_of_ble_eq_true rfl) (Nat.le_of_ble_eq_true rfl) h

/-! CensusWalkModel.term()V -/
theorem pd_X11_term : (⟨"CensusWalkModel", "term", "()V"⟩ : MethodName).cls = "CensusWalkModel" ∧ (⟨"CensusWalkModel", "term", "()V"⟩ : MethodName).cls ≠ "java/lang/invoke/MethodHandle" ∧ (⟨"CensusWalkModel", "term", "()V"⟩ : MethodName).cls ≠ "java/lang/invoke/VarHandle" ∧ (parseMethodDescriptor (⟨"CensusWalkModel", "term", "()V"⟩ : MethodName).desc).map (fun d => d.parameters.length) = some 0 := by decide +kernel
def wp_X11_term_74 (E : ms_En) (rec : ms_St → Nat → (ms_St → Prop) → Prop) (o : Nat) (post : ms_St → Prop)  (u : ms_St)  : Prop := post u
set_option maxHeartbeats 4000000 in
set_option maxRecDepth 100000 in
theorem c_X11_term_74 {p : Program} {l : Launch} {e : Env} {s : State} {m : MethodId} {args : Array Value} {below : List Frame} {meth : Method} {c : Code} {G : va_G} {cy : Nat → ClassId} {A : Nat → Prop} {L : Nat → Nat} {E : ms_En} (C : ms_Cx p m c cX11_term 2 s args (Cond.code ⟨"CensusWalkModel", "term", "()V"⟩ prog_13_method_21_code 2 none) "CensusWalkModel" G cy A) (hr : meth.sig.returnType = none) (hlocks : meth.locks = false) (hE : ms_WT E) {d : Nat} {rec : ms_St → Nat → (ms_St → Prop) → Prop} (hrec : ∀ (u : ms_St) (o : Nat) (post : ms_St → Prop), ms_is E o 11 → rec u o post → ms_MetV l ⟨"CensusWalkModel", "sum", "()V"⟩ (Cond.code ⟨"CensusWalkModel", "sum", "()V"⟩ prog_13_method_22_code 2 none :: lw_g) (ms_rm d 0) G cy L E [.ref (L o)] u post 0 0) {o : Nat} {post : ms_St → Prop}  (ho : ms_is E o 11)  (u : ms_St)   (h : wp_X11_term_74 E rec o post u ) : ms_At p l e (ms_rm d 2) s m args below meth c 2 G cy A L 0 0 (ms_QV below args s G cy L E A post 0 0) E u 74 [] [] := by
  unfold wp_X11_term_74 at h
  exact a_vret C dX11_term_74 hr hlocks (Nat.le_of_ble_eq_true rfl) (Nat.le_of_ble_eq_true rfl) h
def wp_X11_term_68 (E : ms_En) (rec : ms_St → Nat → (ms_St → Prop) → Prop) (o : Nat) (post : ms_St → Prop) (k4 : ms_St → Prop) (u : ms_St) (z0 : Int32) (z1 : Nat) : Prop := wp_X11_emit E u z1 z0 (fun u68 => k4 u68)
set_option maxHeartbeats 4000000 in
set_option maxRecDepth 100000 in
theorem c_X11_term_68 {p : Program} {l : Launch} {e : Env} {s : State} {m : MethodId} {args : Array Value} {below : List Frame} {meth : Method} {c : Code} {G : va_G} {cy : Nat → ClassId} {A : Nat → Prop} {L : Nat → Nat} {E : ms_En} (C : ms_Cx p m c cX11_term 2 s args (Cond.code ⟨"CensusWalkModel", "term", "()V"⟩ prog_13_method_21_code 2 none) "CensusWalkModel" G cy A) (hr : meth.sig.returnType = none) (hlocks : meth.locks = false) (hE : ms_WT E) {d : Nat} {rec : ms_St → Nat → (ms_St → Prop) → Prop} (hrec : ∀ (u : ms_St) (o : Nat) (post : ms_St → Prop), ms_is E o 11 → rec u o post → ms_MetV l ⟨"CensusWalkModel", "sum", "()V"⟩ (Cond.code ⟨"CensusWalkModel", "sum", "()V"⟩ prog_13_method_22_code 2 none :: lw_g) (ms_rm d 0) G cy L E [.ref (L o)] u post 0 0) {o : Nat} {post : ms_St → Prop} {k4 : ms_St → Prop} (ho : ms_is E o 11) (hk4 : ∀ (u : ms_St) , k4 u  → ms_At p l e (ms_rm d 2) s m args below meth c 2 G cy A L 0 0 (ms_QV below args s G cy L E A post 0 0) E u 4 [(0, .ref (L o))] []) (u : ms_St) (z0 : Int32) (z1 : Nat) (k_z1 : ms_is E z1 11) (h : wp_X11_term_68 E rec o post k4 u z0 z1) : ms_At p l e (ms_rm d 2) s m args below meth c 2 G cy A L 0 0 (ms_QV below args s G cy L E A post 0 0) E u 68 [(0, .ref (L o))] [.int z0, .ref (L z1)] := by
  unfold wp_X11_term_68 at h
  refine a_callVV C (c_X11_emit l G cy L E hE u z1 z0 k_z1 _ h) k_z1 rfl (by decide) kw_6_193 kw_6_195 kp_59 kw_1_12 kw_6_196 rfl rfl pd_X11_emit ⟨(by simp only [ms_rm]; omega), (by simp only [ms_rm]; omega)⟩ dX11_term_68 rfl (Nat.le_of_ble_eq_true rfl) ⟨(Nat.le_of_ble_eq_true rfl), (Nat.le_of_ble_eq_true rfl)⟩ rfl (fun u68 h => ?_)
  refine a_goto (tgt := 4) C dX11_term_71 (by decide) ?_
  exact hk4 u68  h
def wp_X11_term_43 (E : ms_En) (rec : ms_St → Nat → (ms_St → Prop) → Prop) (o : Nat) (post : ms_St → Prop) (k4 : ms_St → Prop) (u : ms_St) (z0 : Int32) : Prop := wp_X11_factor E rec (ms_sI u o 4 ((ms_I u o 4) + 1)) o (fun u55 => (z0 = 0 → wp_X11_term_68 E rec o post k4 u55 5 o) ∧ (¬ z0 = 0 → wp_X11_term_68 E rec o post k4 u55 4 o))
set_option maxHeartbeats 4000000 in
set_option maxRecDepth 100000 in
theorem c_X11_term_43 {p : Program} {l : Launch} {e : Env} {s : State} {m : MethodId} {args : Array Value} {below : List Frame} {meth : Method} {c : Code} {G : va_G} {cy : Nat → ClassId} {A : Nat → Prop} {L : Nat → Nat} {E : ms_En} (C : ms_Cx p m c cX11_term 2 s args (Cond.code ⟨"CensusWalkModel", "term", "()V"⟩ prog_13_method_21_code 2 none) "CensusWalkModel" G cy A) (hr : meth.sig.returnType = none) (hlocks : meth.locks = false) (hE : ms_WT E) {d : Nat} {rec : ms_St → Nat → (ms_St → Prop) → Prop} (hrec : ∀ (u : ms_St) (o : Nat) (post : ms_St → Prop), ms_is E o 11 → rec u o post → ms_MetV l ⟨"CensusWalkModel", "sum", "()V"⟩ (Cond.code ⟨"CensusWalkModel", "sum", "()V"⟩ prog_13_method_22_code 2 none :: lw_g) (ms_rm d 0) G cy L E [.ref (L o)] u post 0 0) {o : Nat} {post : ms_St → Prop} {k4 : ms_St → Prop} (ho : ms_is E o 11) (hk4 : ∀ (u : ms_St) , k4 u  → ms_At p l e (ms_rm d 2) s m args below meth c 2 G cy A L 0 0 (ms_QV below args s G cy L E A post 0 0) E u 4 [(0, .ref (L o))] []) (u : ms_St) (z0 : Int32)  (h : wp_X11_term_43 E rec o post k4 u z0) : ms_At p l e (ms_rm d 2) s m args below meth c 2 G cy A L 0 0 (ms_QV below args s G cy L E A post 0 0) E u 43 [(0, .ref (L o))] [.int z0] := by
  unfold wp_X11_term_43 at h
  refine a_istore_n (lv' := [(0, .ref (L o)), (1, .int z0)]) C dX11_term_43 rfl (by decide) [1, 0] rfl rfl ?_
  refine a_aload_n C dX11_term_44 rfl 0 rfl rfl ?_
  refine a_dup C dX11_term_45 rfl rfl ?_
  refine g_11_4 C dX11_term_46 ho kw_5_226 rfl ?_
  refine a_iconst (v := 1) C dX11_term_49 (by decide) rfl ?_
  refine a_iadd C dX11_term_50 rfl ?_
  refine s_11_4 C dX11_term_51 ho kw_5_226 rfl ?_
  refine a_aload_n C dX11_term_54 rfl 0 rfl rfl ?_
  refine a_callVV C (c_X11_factor l G cy L E hE rec hrec (ms_sI u o 4 ((ms_I u o 4) + 1)) o ho _ h) ho rfl (by decide) kw_6_187 kw_6_189 kp_58 kw_1_12 kw_6_190 rfl rfl pd_X11_factor ⟨(by simp only [ms_rm]; omega), (by simp only [ms_rm]; omega)⟩ dX11_term_55 rfl (Nat.le_of_ble_eq_true rfl) ⟨(Nat.le_of_ble_eq_true rfl), (Nat.le_of_ble_eq_true rfl)⟩ rfl (fun u55 h => ?_)
  refine a_aload_n C dX11_term_58 rfl 0 rfl rfl ?_
  refine a_iload_n C dX11_term_59 rfl 1 rfl rfl ?_
  refine a_if_eq (tgt := 67) C dX11_term_60 (by decide) rfl (fun hc => ?_) (fun hc => ?_)
  · replace h := h.1 hc
    refine a_iconst (v := 5) C dX11_term_67 (by decide) rfl ?_
    refine a_sub (lv' := [(0, .ref (L o))]) [0] rfl ?_
    exact c_X11_term_68 C hr hlocks hE hrec ho hk4 u55 5 o ho h
  · replace h := h.2 hc
    refine a_iconst (v := 4) C dX11_term_63 (by decide) rfl ?_
    refine a_goto (tgt := 68) C dX11_term_64 (by decide) ?_
    refine a_sub (lv' := [(0, .ref (L o))]) [0] rfl ?_
    exact c_X11_term_68 C hr hlocks hE hrec ho hk4 u55 4 o ho h
def wp_X11_term_29 (E : ms_En) (rec : ms_St → Nat → (ms_St → Prop) → Prop) (o : Nat) (post : ms_St → Prop) (k4 : ms_St → Prop) (u : ms_St)  : Prop := wp_X11_next E u o (fun r30 u30 => (r30 = 42 → wp_X11_term_43 E rec o post k4 u30 1) ∧ (¬ r30 = 42 → wp_X11_term_43 E rec o post k4 u30 0))
set_option maxHeartbeats 4000000 in
set_option maxRecDepth 100000 in
theorem c_X11_term_29 {p : Program} {l : Launch} {e : Env} {s : State} {m : MethodId} {args : Array Value} {below : List Frame} {meth : Method} {c : Code} {G : va_G} {cy : Nat → ClassId} {A : Nat → Prop} {L : Nat → Nat} {E : ms_En} (C : ms_Cx p m c cX11_term 2 s args (Cond.code ⟨"CensusWalkModel", "term", "()V"⟩ prog_13_method_21_code 2 none) "CensusWalkModel" G cy A) (hr : meth.sig.returnType = none) (hlocks : meth.locks = false) (hE : ms_WT E) {d : Nat} {rec : ms_St → Nat → (ms_St → Prop) → Prop} (hrec : ∀ (u : ms_St) (o : Nat) (post : ms_St → Prop), ms_is E o 11 → rec u o post → ms_MetV l ⟨"CensusWalkModel", "sum", "()V"⟩ (Cond.code ⟨"CensusWalkModel", "sum", "()V"⟩ prog_13_method_22_code 2 none :: lw_g) (ms_rm d 0) G cy L E [.ref (L o)] u post 0 0) {o : Nat} {post : ms_St → Prop} {k4 : ms_St → Prop} (ho : ms_is E o 11) (hk4 : ∀ (u : ms_St) , k4 u  → ms_At p l e (ms_rm d 2) s m args below meth c 2 G cy A L 0 0 (ms_QV below args s G cy L E A post 0 0) E u 4 [(0, .ref (L o))] []) (u : ms_St)   (h : wp_X11_term_29 E rec o post k4 u ) : ms_At p l e (ms_rm d 2) s m args below meth c 2 G cy A L 0 0 (ms_QV below args s G cy L E A post 0 0) E u 29 [(0, .ref (L o))] [] := by
  unfold wp_X11_term_29 at h
  refine a_aload_n C dX11_term_29 rfl 0 rfl rfl ?_
  refine a_callVI C (c_X11_next l G cy L E hE u o ho _ h) ho rfl (by decide) kw_6_114 kw_6_116 kp_46 kw_1_12 kw_6_117 rfl rfl pd_X11_next ⟨(by simp only [ms_rm]; omega), (by simp only [ms_rm]; omega)⟩ dX11_term_30 rfl (Nat.le_of_ble_eq_true rfl) ⟨(Nat.le_of_ble_eq_true rfl), (Nat.le_of_ble_eq_true rfl)⟩ rfl (fun r30 u30 h => ?_)
  refine a_bipush (v := 42) C dX11_term_33 (by decide) rfl ?_
  refine a_icmp_ne (tgt := 42) C dX11_term_35 (by decide) rfl (fun hc => ?_) (fun hc => ?_)
  · replace h := h.2 hc
    refine a_iconst (v := 0) C dX11_term_42 (by decide) rfl ?_
    exact c_X11_term_43 C hr hlocks hE hrec ho hk4 u30 0  h
  · replace h := h.1 hc
    refine a_iconst (v := 1) C dX11_term_38 (by decide) rfl ?_
    refine a_goto (tgt := 43) C dX11_term_39 (by decide) ?_
    exact c_X11_term_43 C hr hlocks hE hrec ho hk4 u30 1  h
def wp_X11_term_4 (E : ms_En) (rec : ms_St → Nat → (ms_St → Prop) → Prop) (o : Nat) (post : ms_St → Prop)  : Nat → ms_St → Prop
  | 0 => fun _  => False
  | n + 1 => fun u  => wp_X11_isGood E u o (fun r5 u5 => (r5 = 0 → wp_X11_term_74 E rec o post u5) ∧ (¬ r5 = 0 → wp_X11_next E u5 o (fun r12 u12 => (r12 = 42 → wp_X11_term_29 E rec o post (wp_X11_term_4 E rec o post n) u12) ∧ (¬ r12 = 42 → wp_X11_next E u12 o (fun r21 u21 => (r21 = 47 → wp_X11_term_29 E rec o post (wp_X11_term_4 E rec o post n) u21) ∧ (¬ r21 = 47 → wp_X11_term_74 E rec o post u21))))))
set_option maxHeartbeats 4000000 in
set_option maxRecDepth 100000 in
theorem c_X11_term_4 {p : Program} {l : Launch} {e : Env} {s : State} {m : MethodId} {args : Array Value} {below : List Frame} {meth : Method} {c : Code} {G : va_G} {cy : Nat → ClassId} {A : Nat → Prop} {L : Nat → Nat} {E : ms_En} (C : ms_Cx p m c cX11_term 2 s args (Cond.code ⟨"CensusWalkModel", "term", "()V"⟩ prog_13_method_21_code 2 none) "CensusWalkModel" G cy A) (hr : meth.sig.returnType = none) (hlocks : meth.locks = false) (hE : ms_WT E) {d : Nat} {rec : ms_St → Nat → (ms_St → Prop) → Prop} (hrec : ∀ (u : ms_St) (o : Nat) (post : ms_St → Prop), ms_is E o 11 → rec u o post → ms_MetV l ⟨"CensusWalkModel", "sum", "()V"⟩ (Cond.code ⟨"CensusWalkModel", "sum", "()V"⟩ prog_13_method_22_code 2 none :: lw_g) (ms_rm d 0) G cy L E [.ref (L o)] u post 0 0) {o : Nat} {post : ms_St → Prop}  (ho : ms_is E o 11)  : ∀ (n : Nat) (u : ms_St) , wp_X11_term_4 E rec o post n u  → ms_At p l e (ms_rm d 2) s m args below meth c 2 G cy A L 0 0 (ms_QV below args s G cy L E A post 0 0) E u 4 [(0, .ref (L o))] [] := by
  intro n
  induction n with
  | zero =>
    intro u   h
    exact absurd h id
  | succ n ih =>
    intro u   h
    unfold wp_X11_term_4 at h
    refine a_aload_n C dX11_term_4 rfl 0 rfl rfl ?_
    refine a_callVI C (c_X11_isGood l G cy L E hE u o ho _ h) ho rfl (by decide) kw_6_110 kw_6_112 kp_45 kw_1_12 kw_6_113 rfl rfl pd_X11_isGood ⟨(by simp only [ms_rm]; omega), (by simp only [ms_rm]; omega)⟩ dX11_term_5 rfl (Nat.le_of_ble_eq_true rfl) ⟨(Nat.le_of_ble_eq_true rfl), (Nat.le_of_ble_eq_true rfl)⟩ rfl (fun r5 u5 h => ?_)
    refine a_if_eq (tgt := 74) C dX11_term_8 (by decide) rfl (fun hc => ?_) (fun hc => ?_)
    · replace h := h.1 hc
      refine a_sub (lv' := []) [] rfl ?_
      exact c_X11_term_74 C hr hlocks hE hrec ho  u5  h
    · replace h := h.2 hc
      refine a_aload_n C dX11_term_11 rfl 0 rfl rfl ?_
      refine a_callVI C (c_X11_next l G cy L E hE u5 o ho _ h) ho rfl (by decide) kw_6_114 kw_6_116 kp_46 kw_1_12 kw_6_117 rfl rfl pd_X11_next ⟨(by simp only [ms_rm]; omega), (by simp only [ms_rm]; omega)⟩ dX11_term_12 rfl (Nat.le_of_ble_eq_true rfl) ⟨(Nat.le_of_ble_eq_true rfl), (Nat.le_of_ble_eq_true rfl)⟩ rfl (fun r12 u12 h => ?_)
      refine a_bipush (v := 42) C dX11_term_15 (by decide) rfl ?_
      refine a_icmp_eq (tgt := 29) C dX11_term_17 (by decide) rfl (fun hc => ?_) (fun hc => ?_)
      · replace h := h.1 hc
        exact c_X11_term_29 C hr hlocks hE hrec ho ih u12  h
      · replace h := h.2 hc
        refine a_aload_n C dX11_term_20 rfl 0 rfl rfl ?_
        refine a_callVI C (c_X11_next l G cy L E hE u12 o ho _ h) ho rfl (by decide) kw_6_114 kw_6_116 kp_46 kw_1_12 kw_6_117 rfl rfl pd_X11_next ⟨(by simp only [ms_rm]; omega), (by simp only [ms_rm]; omega)⟩ dX11_term_21 rfl (Nat.le_of_ble_eq_true rfl) ⟨(Nat.le_of_ble_eq_true rfl), (Nat.le_of_ble_eq_true rfl)⟩ rfl (fun r21 u21 h => ?_)
        refine a_bipush (v := 47) C dX11_term_24 (by decide) rfl ?_
        refine a_icmp_ne (tgt := 74) C dX11_term_26 (by decide) rfl (fun hc => ?_) (fun hc => ?_)
        · replace h := h.2 hc
          refine a_sub (lv' := []) [] rfl ?_
          exact c_X11_term_74 C hr hlocks hE hrec ho  u21  h
        · replace h := h.1 hc
          exact c_X11_term_29 C hr hlocks hE hrec ho ih u21  h
def wp_X11_term (E : ms_En) (rec : ms_St → Nat → (ms_St → Prop) → Prop) (u : ms_St) (o : Nat) (post : ms_St → Prop) : Prop := wp_X11_factor E rec u o (fun u1 => ∃ n4, wp_X11_term_4 E rec o post n4 u1)
set_option maxHeartbeats 4000000 in
set_option maxRecDepth 100000 in
theorem c_X11_term (l : Launch) (G : va_G) (cy : Nat → ClassId) (L : Nat → Nat) (E : ms_En) (hE : ms_WT E) {d : Nat} (rec : ms_St → Nat → (ms_St → Prop) → Prop) (hrec : ∀ (u : ms_St) (o : Nat) (post : ms_St → Prop), ms_is E o 11 → rec u o post → ms_MetV l ⟨"CensusWalkModel", "sum", "()V"⟩ (Cond.code ⟨"CensusWalkModel", "sum", "()V"⟩ prog_13_method_22_code 2 none :: lw_g) (ms_rm d 0) G cy L E [.ref (L o)] u post 0 0) (u : ms_St) (o : Nat) (ho : ms_is E o 11) (post : ms_St → Prop) (h : wp_X11_term E rec u o post) : ms_MetV l ⟨"CensusWalkModel", "term", "()V"⟩ (Cond.code ⟨"CensusWalkModel", "term", "()V"⟩ prog_13_method_21_code 2 none :: lw_g) (ms_rm d 2) G cy L E [.ref (L o)] u post 0 0 := by
  refine ms_enterV (lv := [(0, .ref (L o))]) (by decide) (Nat.le_of_ble_eq_true rfl) rfl ?_
  intro p e s m args below meth c A C hr hlocks
  unfold wp_X11_term at h
  refine a_aload_n C dX11_term_0 rfl 0 rfl rfl ?_
  refine a_callVV C (c_X11_factor l G cy L E hE rec hrec u o ho _ h) ho rfl (by decide) kw_6_187 kw_6_189 kp_58 kw_1_12 kw_6_190 rfl rfl pd_X11_factor ⟨(by simp only [ms_rm]; omega), (by simp only [ms_rm]; omega)⟩ dX11_term_1 rfl (Nat.le_of_ble_eq_true rfl) ⟨(Nat.le_of_ble_eq_true rfl), (Nat.le_of_ble_eq_true rfl)⟩ rfl (fun u1 h => ?_)
  obtain ⟨n9, h⟩ := h
  exact c_X11_term_4 C hr hlocks hE hrec ho  n9 u1  h

/-! CensusWalkModel.sum()V -/
def wp_X11_sum_74 (E : ms_En) (rec : ms_St → Nat → (ms_St → Prop) → Prop) (o : Nat) (post : ms_St → Prop)  (u : ms_St)  : Prop := post u
set_option maxHeartbeats 4000000 in
set_option maxRecDepth 100000 in
theorem c_X11_sum_74 {p : Program} {l : Launch} {e : Env} {s : State} {m : MethodId} {args : Array Value} {below : List Frame} {meth : Method} {c : Code} {G : va_G} {cy : Nat → ClassId} {A : Nat → Prop} {L : Nat → Nat} {E : ms_En} (C : ms_Cx p m c cX11_sum 2 s args (Cond.code ⟨"CensusWalkModel", "sum", "()V"⟩ prog_13_method_22_code 2 none) "CensusWalkModel" G cy A) (hr : meth.sig.returnType = none) (hlocks : meth.locks = false) (hE : ms_WT E) {d : Nat} {rec : ms_St → Nat → (ms_St → Prop) → Prop} (hrec : ∀ (u : ms_St) (o : Nat) (post : ms_St → Prop), ms_is E o 11 → rec u o post → ms_MetV l ⟨"CensusWalkModel", "sum", "()V"⟩ (Cond.code ⟨"CensusWalkModel", "sum", "()V"⟩ prog_13_method_22_code 2 none :: lw_g) (ms_rm d 0) G cy L E [.ref (L o)] u post 0 0) {o : Nat} {post : ms_St → Prop}  (ho : ms_is E o 11)  (u : ms_St)   (h : wp_X11_sum_74 E rec o post u ) : ms_At p l e (ms_rm d 4) s m args below meth c 2 G cy A L 0 0 (ms_QV below args s G cy L E A post 0 0) E u 74 [] [] := by
  unfold wp_X11_sum_74 at h
  exact a_vret C dX11_sum_74 hr hlocks (Nat.le_of_ble_eq_true rfl) (Nat.le_of_ble_eq_true rfl) h
def wp_X11_sum_68 (E : ms_En) (rec : ms_St → Nat → (ms_St → Prop) → Prop) (o : Nat) (post : ms_St → Prop) (k4 : ms_St → Prop) (u : ms_St) (z0 : Int32) (z1 : Nat) : Prop := wp_X11_emit E u z1 z0 (fun u68 => k4 u68)
set_option maxHeartbeats 4000000 in
set_option maxRecDepth 100000 in
theorem c_X11_sum_68 {p : Program} {l : Launch} {e : Env} {s : State} {m : MethodId} {args : Array Value} {below : List Frame} {meth : Method} {c : Code} {G : va_G} {cy : Nat → ClassId} {A : Nat → Prop} {L : Nat → Nat} {E : ms_En} (C : ms_Cx p m c cX11_sum 2 s args (Cond.code ⟨"CensusWalkModel", "sum", "()V"⟩ prog_13_method_22_code 2 none) "CensusWalkModel" G cy A) (hr : meth.sig.returnType = none) (hlocks : meth.locks = false) (hE : ms_WT E) {d : Nat} {rec : ms_St → Nat → (ms_St → Prop) → Prop} (hrec : ∀ (u : ms_St) (o : Nat) (post : ms_St → Prop), ms_is E o 11 → rec u o post → ms_MetV l ⟨"CensusWalkModel", "sum", "()V"⟩ (Cond.code ⟨"CensusWalkModel", "sum", "()V"⟩ prog_13_method_22_code 2 none :: lw_g) (ms_rm d 0) G cy L E [.ref (L o)] u post 0 0) {o : Nat} {post : ms_St → Prop} {k4 : ms_St → Prop} (ho : ms_is E o 11) (hk4 : ∀ (u : ms_St) , k4 u  → ms_At p l e (ms_rm d 4) s m args below meth c 2 G cy A L 0 0 (ms_QV below args s G cy L E A post 0 0) E u 4 [(0, .ref (L o))] []) (u : ms_St) (z0 : Int32) (z1 : Nat) (k_z1 : ms_is E z1 11) (h : wp_X11_sum_68 E rec o post k4 u z0 z1) : ms_At p l e (ms_rm d 4) s m args below meth c 2 G cy A L 0 0 (ms_QV below args s G cy L E A post 0 0) E u 68 [(0, .ref (L o))] [.int z0, .ref (L z1)] := by
  unfold wp_X11_sum_68 at h
  refine a_callVV C (c_X11_emit l G cy L E hE u z1 z0 k_z1 _ h) k_z1 rfl (by decide) kw_6_193 kw_6_195 kp_59 kw_1_12 kw_6_196 rfl rfl pd_X11_emit ⟨(by simp only [ms_rm]; omega), (by simp only [ms_rm]; omega)⟩ dX11_sum_68 rfl (Nat.le_of_ble_eq_true rfl) ⟨(Nat.le_of_ble_eq_true rfl), (Nat.le_of_ble_eq_true rfl)⟩ rfl (fun u68 h => ?_)
  refine a_goto (tgt := 4) C dX11_sum_71 (by decide) ?_
  exact hk4 u68  h
def wp_X11_sum_43 (E : ms_En) (rec : ms_St → Nat → (ms_St → Prop) → Prop) (o : Nat) (post : ms_St → Prop) (k4 : ms_St → Prop) (u : ms_St) (z0 : Int32) : Prop := wp_X11_term E rec (ms_sI u o 4 ((ms_I u o 4) + 1)) o (fun u55 => (z0 = 0 → wp_X11_sum_68 E rec o post k4 u55 3 o) ∧ (¬ z0 = 0 → wp_X11_sum_68 E rec o post k4 u55 2 o))
set_option maxHeartbeats 4000000 in
set_option maxRecDepth 100000 in
theorem c_X11_sum_43 {p : Program} {l : Launch} {e : Env} {s : State} {m : MethodId} {args : Array Value} {below : List Frame} {meth : Method} {c : Code} {G : va_G} {cy : Nat → ClassId} {A : Nat → Prop} {L : Nat → Nat} {E : ms_En} (C : ms_Cx p m c cX11_sum 2 s args (Cond.code ⟨"CensusWalkModel", "sum", "()V"⟩ prog_13_method_22_code 2 none) "CensusWalkModel" G cy A) (hr : meth.sig.returnType = none) (hlocks : meth.locks = false) (hE : ms_WT E) {d : Nat} {rec : ms_St → Nat → (ms_St → Prop) → Prop} (hrec : ∀ (u : ms_St) (o : Nat) (post : ms_St → Prop), ms_is E o 11 → rec u o post → ms_MetV l ⟨"CensusWalkModel", "sum", "()V"⟩ (Cond.code ⟨"CensusWalkModel", "sum", "()V"⟩ prog_13_method_22_code 2 none :: lw_g) (ms_rm d 0) G cy L E [.ref (L o)] u post 0 0) {o : Nat} {post : ms_St → Prop} {k4 : ms_St → Prop} (ho : ms_is E o 11) (hk4 : ∀ (u : ms_St) , k4 u  → ms_At p l e (ms_rm d 4) s m args below meth c 2 G cy A L 0 0 (ms_QV below args s G cy L E A post 0 0) E u 4 [(0, .ref (L o))] []) (u : ms_St) (z0 : Int32)  (h : wp_X11_sum_43 E rec o post k4 u z0) : ms_At p l e (ms_rm d 4) s m args below meth c 2 G cy A L 0 0 (ms_QV below args s G cy L E A post 0 0) E u 43 [(0, .ref (L o))] [.int z0] := by
  unfold wp_X11_sum_43 at h
  refine a_istore_n (lv' := [(0, .ref (L o)), (1, .int z0)]) C dX11_sum_43 rfl (by decide) [1, 0] rfl rfl ?_
  refine a_aload_n C dX11_sum_44 rfl 0 rfl rfl ?_
  refine a_dup C dX11_sum_45 rfl rfl ?_
  refine g_11_4 C dX11_sum_46 ho kw_5_226 rfl ?_
  refine a_iconst (v := 1) C dX11_sum_49 (by decide) rfl ?_
  refine a_iadd C dX11_sum_50 rfl ?_
  refine s_11_4 C dX11_sum_51 ho kw_5_226 rfl ?_
  refine a_aload_n C dX11_sum_54 rfl 0 rfl rfl ?_
  refine a_callVV C (c_X11_term l G cy L E hE rec hrec (ms_sI u o 4 ((ms_I u o 4) + 1)) o ho _ h) ho rfl (by decide) kw_6_183 kw_6_185 kp_57 kw_1_12 kw_6_186 rfl rfl pd_X11_term ⟨(by simp only [ms_rm]; omega), (by simp only [ms_rm]; omega)⟩ dX11_sum_55 rfl (Nat.le_of_ble_eq_true rfl) ⟨(Nat.le_of_ble_eq_true rfl), (Nat.le_of_ble_eq_true rfl)⟩ rfl (fun u55 h => ?_)
  refine a_aload_n C dX11_sum_58 rfl 0 rfl rfl ?_
  refine a_iload_n C dX11_sum_59 rfl 1 rfl rfl ?_
  refine a_if_eq (tgt := 67) C dX11_sum_60 (by decide) rfl (fun hc => ?_) (fun hc => ?_)
  · replace h := h.1 hc
    refine a_iconst (v := 3) C dX11_sum_67 (by decide) rfl ?_
    refine a_sub (lv' := [(0, .ref (L o))]) [0] rfl ?_
    exact c_X11_sum_68 C hr hlocks hE hrec ho hk4 u55 3 o ho h
  · replace h := h.2 hc
    refine a_iconst (v := 2) C dX11_sum_63 (by decide) rfl ?_
    refine a_goto (tgt := 68) C dX11_sum_64 (by decide) ?_
    refine a_sub (lv' := [(0, .ref (L o))]) [0] rfl ?_
    exact c_X11_sum_68 C hr hlocks hE hrec ho hk4 u55 2 o ho h
def wp_X11_sum_29 (E : ms_En) (rec : ms_St → Nat → (ms_St → Prop) → Prop) (o : Nat) (post : ms_St → Prop) (k4 : ms_St → Prop) (u : ms_St)  : Prop := wp_X11_next E u o (fun r30 u30 => (r30 = 43 → wp_X11_sum_43 E rec o post k4 u30 1) ∧ (¬ r30 = 43 → wp_X11_sum_43 E rec o post k4 u30 0))
set_option maxHeartbeats 4000000 in
set_option maxRecDepth 100000 in
theorem c_X11_sum_29 {p : Program} {l : Launch} {e : Env} {s : State} {m : MethodId} {args : Array Value} {below : List Frame} {meth : Method} {c : Code} {G : va_G} {cy : Nat → ClassId} {A : Nat → Prop} {L : Nat → Nat} {E : ms_En} (C : ms_Cx p m c cX11_sum 2 s args (Cond.code ⟨"CensusWalkModel", "sum", "()V"⟩ prog_13_method_22_code 2 none) "CensusWalkModel" G cy A) (hr : meth.sig.returnType = none) (hlocks : meth.locks = false) (hE : ms_WT E) {d : Nat} {rec : ms_St → Nat → (ms_St → Prop) → Prop} (hrec : ∀ (u : ms_St) (o : Nat) (post : ms_St → Prop), ms_is E o 11 → rec u o post → ms_MetV l ⟨"CensusWalkModel", "sum", "()V"⟩ (Cond.code ⟨"CensusWalkModel", "sum", "()V"⟩ prog_13_method_22_code 2 none :: lw_g) (ms_rm d 0) G cy L E [.ref (L o)] u post 0 0) {o : Nat} {post : ms_St → Prop} {k4 : ms_St → Prop} (ho : ms_is E o 11) (hk4 : ∀ (u : ms_St) , k4 u  → ms_At p l e (ms_rm d 4) s m args below meth c 2 G cy A L 0 0 (ms_QV below args s G cy L E A post 0 0) E u 4 [(0, .ref (L o))] []) (u : ms_St)   (h : wp_X11_sum_29 E rec o post k4 u ) : ms_At p l e (ms_rm d 4) s m args below meth c 2 G cy A L 0 0 (ms_QV below args s G cy L E A post 0 0) E u 29 [(0, .ref (L o))] [] := by
  unfold wp_X11_sum_29 at h
  refine a_aload_n C dX11_sum_29 rfl 0 rfl rfl ?_
  refine a_callVI C (c_X11_next l G cy L E hE u o ho _ h) ho rfl (by decide) kw_6_114 kw_6_116 kp_46 kw_1_12 kw_6_117 rfl rfl pd_X11_next ⟨(by simp only [ms_rm]; omega), (by simp only [ms_rm]; omega)⟩ dX11_sum_30 rfl (Nat.le_of_ble_eq_true rfl) ⟨(Nat.le_of_ble_eq_true rfl), (Nat.le_of_ble_eq_true rfl)⟩ rfl (fun r30 u30 h => ?_)
  refine a_bipush (v := 43) C dX11_sum_33 (by decide) rfl ?_
  refine a_icmp_ne (tgt := 42) C dX11_sum_35 (by decide) rfl (fun hc => ?_) (fun hc => ?_)
  · replace h := h.2 hc
    refine a_iconst (v := 0) C dX11_sum_42 (by decide) rfl ?_
    exact c_X11_sum_43 C hr hlocks hE hrec ho hk4 u30 0  h
  · replace h := h.1 hc
    refine a_iconst (v := 1) C dX11_sum_38 (by decide) rfl ?_
    refine a_goto (tgt := 43) C dX11_sum_39 (by decide) ?_
    exact c_X11_sum_43 C hr hlocks hE hrec ho hk4 u30 1  h
def wp_X11_sum_4 (E : ms_En) (rec : ms_St → Nat → (ms_St → Prop) → Prop) (o : Nat) (post : ms_St → Prop)  : Nat → ms_St → Prop
  | 0 => fun _  => False
  | n + 1 => fun u  => wp_X11_isGood E u o (fun r5 u5 => (r5 = 0 → wp_X11_sum_74 E rec o post u5) ∧ (¬ r5 = 0 → wp_X11_next E u5 o (fun r12 u12 => (r12 = 43 → wp_X11_sum_29 E rec o post (wp_X11_sum_4 E rec o post n) u12) ∧ (¬ r12 = 43 → wp_X11_next E u12 o (fun r21 u21 => (r21 = 45 → wp_X11_sum_29 E rec o post (wp_X11_sum_4 E rec o post n) u21) ∧ (¬ r21 = 45 → wp_X11_sum_74 E rec o post u21))))))
set_option maxHeartbeats 4000000 in
set_option maxRecDepth 100000 in
theorem c_X11_sum_4 {p : Program} {l : Launch} {e : Env} {s : State} {m : MethodId} {args : Array Value} {below : List Frame} {meth : Method} {c : Code} {G : va_G} {cy : Nat → ClassId} {A : Nat → Prop} {L : Nat → Nat} {E : ms_En} (C : ms_Cx p m c cX11_sum 2 s args (Cond.code ⟨"CensusWalkModel", "sum", "()V"⟩ prog_13_method_22_code 2 none) "CensusWalkModel" G cy A) (hr : meth.sig.returnType = none) (hlocks : meth.locks = false) (hE : ms_WT E) {d : Nat} {rec : ms_St → Nat → (ms_St → Prop) → Prop} (hrec : ∀ (u : ms_St) (o : Nat) (post : ms_St → Prop), ms_is E o 11 → rec u o post → ms_MetV l ⟨"CensusWalkModel", "sum", "()V"⟩ (Cond.code ⟨"CensusWalkModel", "sum", "()V"⟩ prog_13_method_22_code 2 none :: lw_g) (ms_rm d 0) G cy L E [.ref (L o)] u post 0 0) {o : Nat} {post : ms_St → Prop}  (ho : ms_is E o 11)  : ∀ (n : Nat) (u : ms_St) , wp_X11_sum_4 E rec o post n u  → ms_At p l e (ms_rm d 4) s m args below meth c 2 G cy A L 0 0 (ms_QV below args s G cy L E A post 0 0) E u 4 [(0, .ref (L o))] [] := by
  intro n
  induction n with
  | zero =>
    intro u   h
    exact absurd h id
  | succ n ih =>
    intro u   h
    unfold wp_X11_sum_4 at h
    refine a_aload_n C dX11_sum_4 rfl 0 rfl rfl ?_
    refine a_callVI C (c_X11_isGood l G cy L E hE u o ho _ h) ho rfl (by decide) kw_6_110 kw_6_112 kp_45 kw_1_12 kw_6_113 rfl rfl pd_X11_isGood ⟨(by simp only [ms_rm]; omega), (by simp only [ms_rm]; omega)⟩ dX11_sum_5 rfl (Nat.le_of_ble_eq_true rfl) ⟨(Nat.le_of_ble_eq_true rfl), (Nat.le_of_ble_eq_true rfl)⟩ rfl (fun r5 u5 h => ?_)
    refine a_if_eq (tgt := 74) C dX11_sum_8 (by decide) rfl (fun hc => ?_) (fun hc => ?_)
    · replace h := h.1 hc
      refine a_sub (lv' := []) [] rfl ?_
      exact c_X11_sum_74 C hr hlocks hE hrec ho  u5  h
    · replace h := h.2 hc
      refine a_aload_n C dX11_sum_11 rfl 0 rfl rfl ?_
      refine a_callVI C (c_X11_next l G cy L E hE u5 o ho _ h) ho rfl (by decide) kw_6_114 kw_6_116 kp_46 kw_1_12 kw_6_117 rfl rfl pd_X11_next ⟨(by simp only [ms_rm]; omega), (by simp only [ms_rm]; omega)⟩ dX11_sum_12 rfl (Nat.le_of_ble_eq_true rfl) ⟨(Nat.le_of_ble_eq_true rfl), (Nat.le_of_ble_eq_true rfl)⟩ rfl (fun r12 u12 h => ?_)
      refine a_bipush (v := 43) C dX11_sum_15 (by decide) rfl ?_
      refine a_icmp_eq (tgt := 29) C dX11_sum_17 (by decide) rfl (fun hc => ?_) (fun hc => ?_)
      · replace h := h.1 hc
        exact c_X11_sum_29 C hr hlocks hE hrec ho ih u12  h
      · replace h := h.2 hc
        refine a_aload_n C dX11_sum_20 rfl 0 rfl rfl ?_
        refine a_callVI C (c_X11_next l G cy L E hE u12 o ho _ h) ho rfl (by decide) kw_6_114 kw_6_116 kp_46 kw_1_12 kw_6_117 rfl rfl pd_X11_next ⟨(by simp only [ms_rm]; omega), (by simp only [ms_rm]; omega)⟩ dX11_sum_21 rfl (Nat.le_of_ble_eq_true rfl) ⟨(Nat.le_of_ble_eq_true rfl), (Nat.le_of_ble_eq_true rfl)⟩ rfl (fun r21 u21 h => ?_)
        refine a_bipush (v := 45) C dX11_sum_24 (by decide) rfl ?_
        refine a_icmp_ne (tgt := 74) C dX11_sum_26 (by decide) rfl (fun hc => ?_) (fun hc => ?_)
        · replace h := h.2 hc
          refine a_sub (lv' := []) [] rfl ?_
          exact c_X11_sum_74 C hr hlocks hE hrec ho  u21  h
        · replace h := h.1 hc
          exact c_X11_sum_29 C hr hlocks hE hrec ho ih u21  h
def wp_X11_sum (E : ms_En) (rec : ms_St → Nat → (ms_St → Prop) → Prop) (u : ms_St) (o : Nat) (post : ms_St → Prop) : Prop := wp_X11_term E rec u o (fun u1 => ∃ n4, wp_X11_sum_4 E rec o post n4 u1)
set_option maxHeartbeats 4000000 in
set_option maxRecDepth 100000 in
theorem c_X11_sum (l : Launch) (G : va_G) (cy : Nat → ClassId) (L : Nat → Nat) (E : ms_En) (hE : ms_WT E) {d : Nat} (rec : ms_St → Nat → (ms_St → Prop) → Prop) (hrec : ∀ (u : ms_St) (o : Nat) (post : ms_St → Prop), ms_is E o 11 → rec u o post → ms_MetV l ⟨"CensusWalkModel", "sum", "()V"⟩ (Cond.code ⟨"CensusWalkModel", "sum", "()V"⟩ prog_13_method_22_code 2 none :: lw_g) (ms_rm d 0) G cy L E [.ref (L o)] u post 0 0) (u : ms_St) (o : Nat) (ho : ms_is E o 11) (post : ms_St → Prop) (h : wp_X11_sum E rec u o post) : ms_MetV l ⟨"CensusWalkModel", "sum", "()V"⟩ (Cond.code ⟨"CensusWalkModel", "sum", "()V"⟩ prog_13_method_22_code 2 none :: lw_g) (ms_rm d 4) G cy L E [.ref (L o)] u post 0 0 := by
  refine ms_enterV (lv := [(0, .ref (L o))]) (by decide) (Nat.le_of_ble_eq_true rfl) rfl ?_
  intro p e s m args below meth c A C hr hlocks
  unfold wp_X11_sum at h
  refine a_aload_n C dX11_sum_0 rfl 0 rfl rfl ?_
  refine a_callVV C (c_X11_term l G cy L E hE rec hrec u o ho _ h) ho rfl (by decide) kw_6_183 kw_6_185 kp_57 kw_1_12 kw_6_186 rfl rfl pd_X11_term ⟨(by simp only [ms_rm]; omega), (by simp only [ms_rm]; omega)⟩ dX11_sum_1 rfl (Nat.le_of_ble_eq_true rfl) ⟨(Nat.le_of_ble_eq_true rfl), (Nat.le_of_ble_eq_true rfl)⟩ rfl (fun u1 h => ?_)
  obtain ⟨n9, h⟩ := h
  exact c_X11_sum_4 C hr hlocks hE hrec ho  n9 u1  h

def WP_X11_sum (E : ms_En) : Nat → ms_St → Nat → (ms_St → Prop) → Prop
  | 0 => fun _ _ _ => False
  | d + 1 => fun u o post => wp_X11_sum E (WP_X11_sum E d) u o post
theorem C_X11_sum (l : Launch) (G : va_G) (cy : Nat → ClassId) (L : Nat → Nat) (E : ms_En) (hE : ms_WT E) : ∀ (d : Nat) (u : ms_St) (o : Nat) (post : ms_St → Prop), ms_is E o 11 → WP_X11_sum E d u o post → ms_MetV l ⟨"CensusWalkModel", "sum", "()V"⟩ (Cond.code ⟨"CensusWalkModel", "sum", "()V"⟩ prog_13_method_22_code 2 none :: lw_g) (ms_rm d 0) G cy L E [.ref (L o)] u post 0 0 := by
  intro d
  induction d with
  | zero =>
    intro u o post ho h
    exact absurd h id
  | succ d ih =>
    intro u o post ho h
    rw [ms_rm_succ]
    exact c_X11_sum l G cy L E hE (WP_X11_sum E d) ih u o ho post h
