/-! CensusWalk$SetupReader.fail(I)Z -/
theorem pd_X3_fail : (⟨"CensusWalk$SetupReader", "fail", "(I)Z"⟩ : MethodName).cls = "CensusWalk$SetupReader" ∧ (⟨"CensusWalk$SetupReader", "fail", "(I)Z"⟩ : MethodName).cls ≠ "java/lang/invoke/MethodHandle" ∧ (⟨"CensusWalk$SetupReader", "fail", "(I)Z"⟩ : MethodName).cls ≠ "java/lang/invoke/VarHandle" ∧ (parseMethodDescriptor (⟨"CensusWalk$SetupReader", "fail", "(I)Z"⟩ : MethodName).desc).map (fun d => d.parameters.length) = some 1 := by decide +kernel
def wp_X3_fail (E : ms_En) (u : ms_St) (o : Nat) (a1 : Int32) (post : Int32 → ms_St → Prop) : Prop := post 0 (ms_sI (ms_sI u o 2 a1) o 1 (ms_I (ms_sI u o 2 a1) (ms_at E o 3) 1))
set_option maxHeartbeats 4000000 in
set_option maxRecDepth 100000 in
theorem c_X3_fail (l : Launch) (G : va_G) (cy : Nat → ClassId) (L : Nat → Nat) (E : ms_En) (hE : ms_WT E) (u : ms_St) (o : Nat) (a1 : Int32) (ho : ms_is E o 3) (post : Int32 → ms_St → Prop) (h : wp_X3_fail E u o a1 post) : ms_MetI l ⟨"CensusWalk$SetupReader", "fail", "(I)Z"⟩ (Cond.code ⟨"CensusWalk$SetupReader", "fail", "(I)Z"⟩ prog_5_method_13_code 2 (some .boolean) :: lw_g) ({ frames := 0, cells := 0, slots := 0, locals := 0 } : Room) G cy L E [.ref (L o), .int a1] u post 0 0 := by
  refine ms_enterI (lv := [(0, .ref (L o)), (1, .int a1)]) (by decide) (Nat.le_of_ble_eq_true rfl) rfl ?_
  intro p e s m args below meth c A C hr hlocks
  unfold wp_X3_fail at h
  refine a_aload_n C dX3_fail_0 rfl 0 rfl rfl ?_
  refine a_iload_n C dX3_fail_1 rfl 1 rfl rfl ?_
  refine s_3_2 C dX3_fail_2 ho kw_2_20 rfl ?_
  refine a_aload_n C dX3_fail_5 rfl 0 rfl rfl ?_
  refine a_aload_n C dX3_fail_6 rfl 0 rfl rfl ?_
  refine g_3_3 C hE dX3_fail_7 ho kw_2_21 rfl ?_
  have k7 : ms_is E (ms_at E o 3) 6 := ms_wt hE ho rfl (by decide)
  refine g_6_1 C dX3_fail_10 k7 kw_1_221 rfl ?_
  refine s_3_1 C dX3_fail_13 ho kw_2_18 rfl ?_
  refine a_iconst (v := 0) C dX3_fail_16 (by decide) rfl ?_
  exact a_zret C dX3_fail_17 hr hlocks (Nat.le_of_ble_eq_true rfl) (Nat.le_of_ble_eq_true rfl) rfl h

/-! CensusWalk$SetupReader.expect(C)Z -/
theorem pd_X3_expect : (⟨"CensusWalk$SetupReader", "expect", "(C)Z"⟩ : MethodName).cls = "CensusWalk$SetupReader" ∧ (⟨"CensusWalk$SetupReader", "expect", "(C)Z"⟩ : MethodName).cls ≠ "java/lang/invoke/MethodHandle" ∧ (⟨"CensusWalk$SetupReader", "expect", "(C)Z"⟩ : MethodName).cls ≠ "java/lang/invoke/VarHandle" ∧ (parseMethodDescriptor (⟨"CensusWalk$SetupReader", "expect", "(C)Z"⟩ : MethodName).desc).map (fun d => d.parameters.length) = some 1 := by decide +kernel
def wp_X3_expect (E : ms_En) (u : ms_St) (o : Nat) (a1 : Int32) (post : Int32 → ms_St → Prop) : Prop := wp_X6_isSign E u (ms_at E o 3) a1 (fun r5 u5 => (r5 = 0 → wp_X3_fail E u5 o (-2) (fun r14 u14 => (r14 = 0 ∨ r14 = 1) ∧ (post r14 u14))) ∧ (¬ r5 = 0 → wp_X6_advance E u5 (ms_at E o 3) (fun u22 => post 1 u22)))
set_option maxHeartbeats 4000000 in
set_option maxRecDepth 100000 in
theorem c_X3_expect (l : Launch) (G : va_G) (cy : Nat → ClassId) (L : Nat → Nat) (E : ms_En) (hE : ms_WT E) (u : ms_St) (o : Nat) (a1 : Int32) (ho : ms_is E o 3) (post : Int32 → ms_St → Prop) (h : wp_X3_expect E u o a1 post) : ms_MetI l ⟨"CensusWalk$SetupReader", "expect", "(C)Z"⟩ (Cond.code ⟨"CensusWalk$SetupReader", "expect", "(C)Z"⟩ prog_5_method_11_code 2 (some .boolean) :: lw_g) ({ frames := 2, cells := 0, slots := 0, locals := 40 } : Room) G cy L E [.ref (L o), .int a1] u post 0 0 := by
  refine ms_enterI (lv := [(0, .ref (L o)), (1, .int a1)]) (by decide) (Nat.le_of_ble_eq_true rfl) rfl ?_
  intro p e s m args below meth c A C hr hlocks
  unfold wp_X3_expect at h
  refine a_aload_n C dX3_expect_0 rfl 0 rfl rfl ?_
  refine g_3_3 C hE dX3_expect_1 ho kw_2_21 rfl ?_
  have k1 : ms_is E (ms_at E o 3) 6 := ms_wt hE ho rfl (by decide)
  refine a_iload_n C dX3_expect_4 rfl 1 rfl rfl ?_
  refine a_callVI C (c_X6_isSign l G cy L E hE u (ms_at E o 3) a1 k1 _ h) k1 rfl (by decide) kw_4_62 kw_4_63 kw_4_64 kw_1_7 kw_4_65 rfl rfl pd_X6_isSign ⟨(Nat.le_of_ble_eq_true rfl), (Nat.le_of_ble_eq_true rfl)⟩ dX3_expect_5 rfl (Nat.le_of_ble_eq_true rfl) ⟨(Nat.le_of_ble_eq_true rfl), (Nat.le_of_ble_eq_true rfl)⟩ rfl (fun r5 u5 h => ?_)
  refine a_if_ne (tgt := 18) C dX3_expect_8 (by decide) rfl (fun hc => ?_) (fun hc => ?_)
  · replace h := h.2 hc
    refine a_aload_n C dX3_expect_18 rfl 0 rfl rfl ?_
    refine g_3_3 C hE dX3_expect_19 ho kw_2_21 rfl ?_
    refine a_callVV C (c_X6_advance l G cy L E hE u5 (ms_at E o 3) k1 _ h) k1 rfl (by decide) kw_4_53 kw_3_222 kw_3_223 kw_1_7 kw_3_224 rfl rfl pd_X6_advance ⟨(Nat.le_of_ble_eq_true rfl), (Nat.le_of_ble_eq_true rfl)⟩ dX3_expect_22 rfl (Nat.le_of_ble_eq_true rfl) ⟨(Nat.le_of_ble_eq_true rfl), (Nat.le_of_ble_eq_true rfl)⟩ rfl (fun u22 h => ?_)
    refine a_iconst (v := 1) C dX3_expect_25 (by decide) rfl ?_
    exact a_zret C dX3_expect_26 hr hlocks (Nat.le_of_ble_eq_true rfl) (Nat.le_of_ble_eq_true rfl) rfl h
  · replace h := h.1 hc
    refine a_aload_n C dX3_expect_11 rfl 0 rfl rfl ?_
    refine a_bipush (v := (-2)) C dX3_expect_12 (by decide) rfl ?_
    refine a_callVI C (c_X3_fail l G cy L E hE u5 o (-2) ho _ h) ho rfl (by decide) kw_4_49 kw_4_51 kp_14 kw_1_6 kw_4_52 rfl rfl pd_X3_fail ⟨(Nat.le_of_ble_eq_true rfl), (Nat.le_of_ble_eq_true rfl)⟩ dX3_expect_14 rfl (Nat.le_of_ble_eq_true rfl) ⟨(Nat.le_of_ble_eq_true rfl), (Nat.le_of_ble_eq_true rfl)⟩ rfl (fun r14 u14 h => ?_)
    obtain ⟨q17, h⟩ := h
    exact a_zret C dX3_expect_17 hr hlocks (Nat.le_of_ble_eq_true rfl) (Nat.le_of_ble_eq_true rfl) (ms_nz q17) h

theorem pd_X3_sum : (⟨"CensusWalk$SetupReader", "sum", "(I)Z"⟩ : MethodName).cls = "CensusWalk$SetupReader" ∧ (⟨"CensusWalk$SetupReader", "sum", "(I)Z"⟩ : MethodName).cls ≠ "java/lang/invoke/MethodHandle" ∧ (⟨"CensusWalk$SetupReader", "sum", "(I)Z"⟩ : MethodName).cls ≠ "java/lang/invoke/VarHandle" ∧ (parseMethodDescriptor (⟨"CensusWalk$SetupReader", "sum", "(I)Z"⟩ : MethodName).desc).map (fun d => d.parameters.length) = some 1 := by decide +kernel
/-! CensusWalk$SetupReader.factor(I)Z -/
theorem pd_X3_factor : (⟨"CensusWalk$SetupReader", "factor", "(I)Z"⟩ : MethodName).cls = "CensusWalk$SetupReader" ∧ (⟨"CensusWalk$SetupReader", "factor", "(I)Z"⟩ : MethodName).cls ≠ "java/lang/invoke/MethodHandle" ∧ (⟨"CensusWalk$SetupReader", "factor", "(I)Z"⟩ : MethodName).cls ≠ "java/lang/invoke/VarHandle" ∧ (parseMethodDescriptor (⟨"CensusWalk$SetupReader", "factor", "(I)Z"⟩ : MethodName).desc).map (fun d => d.parameters.length) = some 1 := by decide +kernel
def wp_X3_factor_187 (E : ms_En) (rec : ms_St → Nat → Int32 → (Int32 → ms_St → Prop) → Prop) (o : Nat) (a1 : Int32) (post : Int32 → ms_St → Prop)  (u : ms_St) (z0 : Int32) (z1 : Nat) : Prop := wp_X3_fail E u z1 z0 (fun r187 u187 => (r187 = 0 ∨ r187 = 1) ∧ (post r187 u187))
set_option maxHeartbeats 4000000 in
set_option maxRecDepth 100000 in
theorem c_X3_factor_187 {p : Program} {l : Launch} {e : Env} {s : State} {m : MethodId} {args : Array Value} {below : List Frame} {meth : Method} {c : Code} {G : va_G} {cy : Nat → ClassId} {A : Nat → Prop} {L : Nat → Nat} {E : ms_En} (C : ms_Cx p m c cX3_factor 2 s args (Cond.code ⟨"CensusWalk$SetupReader", "factor", "(I)Z"⟩ prog_5_method_10_code 2 (some .boolean)) "CensusWalk$SetupReader" G cy A) (hr : meth.sig.returnType = (some .boolean)) (hlocks : meth.locks = false) (hE : ms_WT E) {d : Nat} {rec : ms_St → Nat → Int32 → (Int32 → ms_St → Prop) → Prop} (hrec : ∀ (u : ms_St) (o : Nat) (a1 : Int32) (post : Int32 → ms_St → Prop), ms_is E o 3 → rec u o a1 post → ms_MetI l ⟨"CensusWalk$SetupReader", "sum", "(I)Z"⟩ (Cond.code ⟨"CensusWalk$SetupReader", "sum", "(I)Z"⟩ prog_5_method_8_code 4 (some .boolean) :: lw_g) (ms_rm d 0) G cy L E [.ref (L o), .int a1] u post 0 0) {o : Nat} {a1 : Int32} {post : Int32 → ms_St → Prop}  (ho : ms_is E o 3)  (u : ms_St) (z0 : Int32) (z1 : Nat) (k_z1 : ms_is E z1 3) (h : wp_X3_factor_187 E rec o a1 post u z0 z1) : ms_At p l e (ms_rm d 1) s m args below meth c 2 G cy A L 0 0 (ms_QI below args s G cy L E A post 0 0) E u 187 [] [.int z0, .ref (L z1)] := by
  unfold wp_X3_factor_187 at h
  refine a_callVI C (c_X3_fail l G cy L E hE u z1 z0 k_z1 _ h) k_z1 rfl (by decide) kw_4_49 kw_4_51 kp_14 kw_1_6 kw_4_52 rfl rfl pd_X3_fail ⟨(by simp only [ms_rm]; omega), (by simp only [ms_rm]; omega)⟩ dX3_factor_187 rfl (Nat.le_of_ble_eq_true rfl) ⟨(Nat.le_of_ble_eq_true rfl), (Nat.le_of_ble_eq_true rfl)⟩ rfl (fun r187 u187 h => ?_)
  obtain ⟨q190, h⟩ := h
  exact a_zret C dX3_factor_190 hr hlocks (Nat.le_of_ble_eq_true rfl) (Nat.le_of_ble_eq_true rfl) (ms_nz q190) h
def wp_X3_factor_168 (E : ms_En) (rec : ms_St → Nat → Int32 → (Int32 → ms_St → Prop) → Prop) (o : Nat) (a1 : Int32) (post : Int32 → ms_St → Prop)  (u : ms_St)  : Prop := ((ms_I u (ms_at E o 3) 0) = 1 → wp_X3_factor_187 E rec o a1 post u (-3) o) ∧ (¬ (ms_I u (ms_at E o 3) 0) = 1 → wp_X3_factor_187 E rec o a1 post u (-2) o)
set_option maxHeartbeats 4000000 in
set_option maxRecDepth 100000 in
theorem c_X3_factor_168 {p : Program} {l : Launch} {e : Env} {s : State} {m : MethodId} {args : Array Value} {below : List Frame} {meth : Method} {c : Code} {G : va_G} {cy : Nat → ClassId} {A : Nat → Prop} {L : Nat → Nat} {E : ms_En} (C : ms_Cx p m c cX3_factor 2 s args (Cond.code ⟨"CensusWalk$SetupReader", "factor", "(I)Z"⟩ prog_5_method_10_code 2 (some .boolean)) "CensusWalk$SetupReader" G cy A) (hr : meth.sig.returnType = (some .boolean)) (hlocks : meth.locks = false) (hE : ms_WT E) {d : Nat} {rec : ms_St → Nat → Int32 → (Int32 → ms_St → Prop) → Prop} (hrec : ∀ (u : ms_St) (o : Nat) (a1 : Int32) (post : Int32 → ms_St → Prop), ms_is E o 3 → rec u o a1 post → ms_MetI l ⟨"CensusWalk$SetupReader", "sum", "(I)Z"⟩ (Cond.code ⟨"CensusWalk$SetupReader", "sum", "(I)Z"⟩ prog_5_method_8_code 4 (some .boolean) :: lw_g) (ms_rm d 0) G cy L E [.ref (L o), .int a1] u post 0 0) {o : Nat} {a1 : Int32} {post : Int32 → ms_St → Prop}  (ho : ms_is E o 3)  (u : ms_St)   (h : wp_X3_factor_168 E rec o a1 post u ) : ms_At p l e (ms_rm d 1) s m args below meth c 2 G cy A L 0 0 (ms_QI below args s G cy L E A post 0 0) E u 168 [(0, .ref (L o))] [] := by
  unfold wp_X3_factor_168 at h
  refine a_aload_n C dX3_factor_168 rfl 0 rfl rfl ?_
  refine a_aload_n C dX3_factor_169 rfl 0 rfl rfl ?_
  refine g_3_3 C hE dX3_factor_170 ho kw_2_21 rfl ?_
  have k170 : ms_is E (ms_at E o 3) 6 := ms_wt hE ho rfl (by decide)
  refine g_6_0 C dX3_factor_173 k170 kw_1_219 rfl ?_
  refine a_iconst (v := 1) C dX3_factor_176 (by decide) rfl ?_
  refine a_icmp_ne (tgt := 185) C dX3_factor_177 (by decide) rfl (fun hc => ?_) (fun hc => ?_)
  · replace h := h.2 hc
    refine a_bipush (v := (-2)) C dX3_factor_185 (by decide) rfl ?_
    refine a_sub (lv' := []) [] rfl ?_
    exact c_X3_factor_187 C hr hlocks hE hrec ho  u (-2) o ho h
  · replace h := h.1 hc
    refine a_bipush (v := (-3)) C dX3_factor_180 (by decide) rfl ?_
    refine a_goto (tgt := 187) C dX3_factor_182 (by decide) ?_
    refine a_sub (lv' := []) [] rfl ?_
    exact c_X3_factor_187 C hr hlocks hE hrec ho  u (-3) o ho h
def wp_X3_factor_191 (E : ms_En) (rec : ms_St → Nat → Int32 → (Int32 → ms_St → Prop) → Prop) (o : Nat) (a1 : Int32) (post : Int32 → ms_St → Prop)  (u : ms_St)  : Prop := wp_X6_advance E u (ms_at E o 3) (fun u195 => post 1 u195)
set_option maxHeartbeats 4000000 in
set_option maxRecDepth 100000 in
theorem c_X3_factor_191 {p : Program} {l : Launch} {e : Env} {s : State} {m : MethodId} {args : Array Value} {below : List Frame} {meth : Method} {c : Code} {G : va_G} {cy : Nat → ClassId} {A : Nat → Prop} {L : Nat → Nat} {E : ms_En} (C : ms_Cx p m c cX3_factor 2 s args (Cond.code ⟨"CensusWalk$SetupReader", "factor", "(I)Z"⟩ prog_5_method_10_code 2 (some .boolean)) "CensusWalk$SetupReader" G cy A) (hr : meth.sig.returnType = (some .boolean)) (hlocks : meth.locks = false) (hE : ms_WT E) {d : Nat} {rec : ms_St → Nat → Int32 → (Int32 → ms_St → Prop) → Prop} (hrec : ∀ (u : ms_St) (o : Nat) (a1 : Int32) (post : Int32 → ms_St → Prop), ms_is E o 3 → rec u o a1 post → ms_MetI l ⟨"CensusWalk$SetupReader", "sum", "(I)Z"⟩ (Cond.code ⟨"CensusWalk$SetupReader", "sum", "(I)Z"⟩ prog_5_method_8_code 4 (some .boolean) :: lw_g) (ms_rm d 0) G cy L E [.ref (L o), .int a1] u post 0 0) {o : Nat} {a1 : Int32} {post : Int32 → ms_St → Prop}  (ho : ms_is E o 3)  (u : ms_St)   (h : wp_X3_factor_191 E rec o a1 post u ) : ms_At p l e (ms_rm d 1) s m args below meth c 2 G cy A L 0 0 (ms_QI below args s G cy L E A post 0 0) E u 191 [(0, .ref (L o))] [] := by
  unfold wp_X3_factor_191 at h
  refine a_aload_n C dX3_factor_191 rfl 0 rfl rfl ?_
  refine g_3_3 C hE dX3_factor_192 ho kw_2_21 rfl ?_
  have k192 : ms_is E (ms_at E o 3) 6 := ms_wt hE ho rfl (by decide)
  refine a_callVV C (c_X6_advance l G cy L E hE u (ms_at E o 3) k192 _ h) k192 rfl (by decide) kw_4_53 kw_3_222 kw_3_223 kw_1_7 kw_3_224 rfl rfl pd_X6_advance ⟨(by simp only [ms_rm]; omega), (by simp only [ms_rm]; omega)⟩ dX3_factor_195 rfl (Nat.le_of_ble_eq_true rfl) ⟨(Nat.le_of_ble_eq_true rfl), (Nat.le_of_ble_eq_true rfl)⟩ rfl (fun u195 h => ?_)
  refine a_iconst (v := 1) C dX3_factor_198 (by decide) rfl ?_
  exact a_zret C dX3_factor_199 hr hlocks (Nat.le_of_ble_eq_true rfl) (Nat.le_of_ble_eq_true rfl) rfl h
def wp_X3_factor_55 (E : ms_En) (rec : ms_St → Nat → Int32 → (Int32 → ms_St → Prop) → Prop) (o : Nat) (a1 : Int32) (post : Int32 → ms_St → Prop)  (u : ms_St) (z0 : Int32) : Prop := (z0 = 0 ∨ z0 = 1) ∧ (post z0 u)
set_option maxHeartbeats 4000000 in
set_option maxRecDepth 100000 in
theorem c_X3_factor_55 {p : Program} {l : Launch} {e : Env} {s : State} {m : MethodId} {args : Array Value} {below : List Frame} {meth : Method} {c : Code} {G : va_G} {cy : Nat → ClassId} {A : Nat → Prop} {L : Nat → Nat} {E : ms_En} (C : ms_Cx p m c cX3_factor 2 s args (Cond.code ⟨"CensusWalk$SetupReader", "factor", "(I)Z"⟩ prog_5_method_10_code 2 (some .boolean)) "CensusWalk$SetupReader" G cy A) (hr : meth.sig.returnType = (some .boolean)) (hlocks : meth.locks = false) (hE : ms_WT E) {d : Nat} {rec : ms_St → Nat → Int32 → (Int32 → ms_St → Prop) → Prop} (hrec : ∀ (u : ms_St) (o : Nat) (a1 : Int32) (post : Int32 → ms_St → Prop), ms_is E o 3 → rec u o a1 post → ms_MetI l ⟨"CensusWalk$SetupReader", "sum", "(I)Z"⟩ (Cond.code ⟨"CensusWalk$SetupReader", "sum", "(I)Z"⟩ prog_5_method_8_code 4 (some .boolean) :: lw_g) (ms_rm d 0) G cy L E [.ref (L o), .int a1] u post 0 0) {o : Nat} {a1 : Int32} {post : Int32 → ms_St → Prop}  (ho : ms_is E o 3)  (u : ms_St) (z0 : Int32)  (h : wp_X3_factor_55 E rec o a1 post u z0) : ms_At p l e (ms_rm d 1) s m args below meth c 2 G cy A L 0 0 (ms_QI below args s G cy L E A post 0 0) E u 55 [] [.int z0] := by
  unfold wp_X3_factor_55 at h
  obtain ⟨q55, h⟩ := h
  exact a_zret C dX3_factor_55 hr hlocks (Nat.le_of_ble_eq_true rfl) (Nat.le_of_ble_eq_true rfl) (ms_nz q55) h
def wp_X3_factor_54 (E : ms_En) (rec : ms_St → Nat → Int32 → (Int32 → ms_St → Prop) → Prop) (o : Nat) (a1 : Int32) (post : Int32 → ms_St → Prop)  (u : ms_St)  : Prop := wp_X3_factor_55 E rec o a1 post u 0
set_option maxHeartbeats 4000000 in
set_option maxRecDepth 100000 in
theorem c_X3_factor_54 {p : Program} {l : Launch} {e : Env} {s : State} {m : MethodId} {args : Array Value} {below : List Frame} {meth : Method} {c : Code} {G : va_G} {cy : Nat → ClassId} {A : Nat → Prop} {L : Nat → Nat} {E : ms_En} (C : ms_Cx p m c cX3_factor 2 s args (Cond.code ⟨"CensusWalk$SetupReader", "factor", "(I)Z"⟩ prog_5_method_10_code 2 (some .boolean)) "CensusWalk$SetupReader" G cy A) (hr : meth.sig.returnType = (some .boolean)) (hlocks : meth.locks = false) (hE : ms_WT E) {d : Nat} {rec : ms_St → Nat → Int32 → (Int32 → ms_St → Prop) → Prop} (hrec : ∀ (u : ms_St) (o : Nat) (a1 : Int32) (post : Int32 → ms_St → Prop), ms_is E o 3 → rec u o a1 post → ms_MetI l ⟨"CensusWalk$SetupReader", "sum", "(I)Z"⟩ (Cond.code ⟨"CensusWalk$SetupReader", "sum", "(I)Z"⟩ prog_5_method_8_code 4 (some .boolean) :: lw_g) (ms_rm d 0) G cy L E [.ref (L o), .int a1] u post 0 0) {o : Nat} {a1 : Int32} {post : Int32 → ms_St → Prop}  (ho : ms_is E o 3)  (u : ms_St)   (h : wp_X3_factor_54 E rec o a1 post u ) : ms_At p l e (ms_rm d 1) s m args below meth c 2 G cy A L 0 0 (ms_QI below args s G cy L E A post 0 0) E u 54 [] [] := by
  unfold wp_X3_factor_54 at h
  refine a_iconst (v := 0) C dX3_factor_54 (by decide) rfl ?_
  exact c_X3_factor_55 C hr hlocks hE hrec ho  u 0  h
def wp_X3_factor (E : ms_En) (rec : ms_St → Nat → Int32 → (Int32 → ms_St → Prop) → Prop) (u : ms_St) (o : Nat) (a1 : Int32) (post : Int32 → ms_St → Prop) : Prop := wp_X6_isSign E u (ms_at E o 3) 40 (fun r6 u6 => (r6 = 0 → wp_X6_isWord E u6 (ms_at E o 3) 9 (fun r62 u62 => (r62 = 0 → wp_X6_isWord E u62 (ms_at E o 3) 4 (fun r85 u85 => (r85 = 0 → wp_X6_isWord E u85 (ms_at E o 3) 10 (fun r109 u109 => (r109 = 0 → ((ms_I u109 (ms_at E o 3) 0) = 1 → (9999 < (ms_I u109 (ms_at E o 3) 2) → wp_X3_factor_168 E rec o a1 post u109) ∧ (¬ 9999 < (ms_I u109 (ms_at E o 3) 2) → wp_X8_add E u109 (ms_at E o 4) (ms_I u109 (ms_at E o 3) 2) (fun u162 => wp_X3_factor_191 E rec o a1 post u162))) ∧ (¬ (ms_I u109 (ms_at E o 3) 0) = 1 → wp_X3_factor_168 E rec o a1 post u109)) ∧ (¬ r109 = 0 → wp_X8_add E u109 (ms_at E o 4) (-3) (fun u121 => wp_X3_factor_191 E rec o a1 post u121)))) ∧ (¬ r85 = 0 → wp_X8_add E u85 (ms_at E o 4) (-2) (fun u97 => wp_X3_factor_191 E rec o a1 post u97)))) ∧ (¬ r62 = 0 → wp_X8_add E u62 (ms_at E o 4) (-1) (fun u73 => wp_X3_factor_191 E rec o a1 post u73)))) ∧ (¬ r6 = 0 → (a1 < 4 → wp_X6_advance E u6 (ms_at E o 3) (fun u28 => rec u28 o (a1 + 1) (fun r35 u35 => (r35 = 0 → wp_X3_factor_54 E rec o a1 post u35) ∧ (¬ r35 = 0 → wp_X3_expect E u35 o 41 (fun r44 u44 => (r44 = 0 → wp_X3_factor_54 E rec o a1 post u44) ∧ (¬ r44 = 0 → wp_X3_factor_55 E rec o a1 post u44 1)))))) ∧ (¬ a1 < 4 → wp_X3_fail E u6 o (-5) (fun r20 u20 => (r20 = 0 ∨ r20 = 1) ∧ (post r20 u20)))))
set_option maxHeartbeats 4000000 in
set_option maxRecDepth 100000 in
theorem c_X3_factor (l : Launch) (G : va_G) (cy : Nat → ClassId) (L : Nat → Nat) (E : ms_En) (hE : ms_WT E) {d : Nat} (rec : ms_St → Nat → Int32 → (Int32 → ms_St → Prop) → Prop) (hrec : ∀ (u : ms_St) (o : Nat) (a1 : Int32) (post : Int32 → ms_St → Prop), ms_is E o 3 → rec u o a1 post → ms_MetI l ⟨"CensusWalk$SetupReader", "sum", "(I)Z"⟩ (Cond.code ⟨"CensusWalk$SetupReader", "sum", "(I)Z"⟩ prog_5_method_8_code 4 (some .boolean) :: lw_g) (ms_rm d 0) G cy L E [.ref (L o), .int a1] u post 0 0) (u : ms_St) (o : Nat) (a1 : Int32) (ho : ms_is E o 3) (post : Int32 → ms_St → Prop) (h : wp_X3_factor E rec u o a1 post) : ms_MetI l ⟨"CensusWalk$SetupReader", "factor", "(I)Z"⟩ (Cond.code ⟨"CensusWalk$SetupReader", "factor", "(I)Z"⟩ prog_5_method_10_code 2 (some .boolean) :: lw_g) (ms_rm d 1) G cy L E [.ref (L o), .int a1] u post 0 0 := by
  refine ms_enterI (lv := [(0, .ref (L o)), (1, .int a1)]) (by decide) (Nat.le_of_ble_eq_true rfl) rfl ?_
  intro p e s m args below meth c A C hr hlocks
  unfold wp_X3_factor at h
  refine a_aload_n C dX3_factor_0 rfl 0 rfl rfl ?_
  refine g_3_3 C hE dX3_factor_1 ho kw_2_21 rfl ?_
  have k1 : ms_is E (ms_at E o 3) 6 := ms_wt hE ho rfl (by decide)
  refine a_bipush (v := 40) C dX3_factor_4 (by decide) rfl ?_
  refine a_callVI C (c_X6_isSign l G cy L E hE u (ms_at E o 3) 40 k1 _ h) k1 rfl (by decide) kw_4_62 kw_4_63 kw_4_64 kw_1_7 kw_4_65 rfl rfl pd_X6_isSign ⟨(by simp only [ms_rm]; omega), (by simp only [ms_rm]; omega)⟩ dX3_factor_6 rfl (Nat.le_of_ble_eq_true rfl) ⟨(Nat.le_of_ble_eq_true rfl), (Nat.le_of_ble_eq_true rfl)⟩ rfl (fun r6 u6 h => ?_)
  refine a_if_eq (tgt := 56) C dX3_factor_9 (by decide) rfl (fun hc => ?_) (fun hc => ?_)
  · replace h := h.1 hc
    refine a_aload_n C dX3_factor_56 rfl 0 rfl rfl ?_
    refine g_3_3 C hE dX3_factor_57 ho kw_2_21 rfl ?_
    refine a_ldcS (j := 9) C dX3_factor_60 rfl rfl rfl rfl ?_
    refine a_callVI C (c_X6_isWord l G cy L E hE u6 (ms_at E o 3) 9 k1 (by decide) _ h) k1 rfl (by decide) kw_3_237 kw_3_238 kw_3_239 kw_1_7 kw_4_0 rfl rfl pd_X6_isWord ⟨(by simp only [ms_rm]; omega), (by simp only [ms_rm]; omega)⟩ dX3_factor_62 rfl (Nat.le_of_ble_eq_true rfl) ⟨(Nat.le_of_ble_eq_true rfl), (Nat.le_of_ble_eq_true rfl)⟩ rfl (fun r62 u62 h => ?_)
    refine a_if_eq (tgt := 79) C dX3_factor_65 (by decide) rfl (fun hc => ?_) (fun hc => ?_)
    · replace h := h.1 hc
      refine a_aload_n C dX3_factor_79 rfl 0 rfl rfl ?_
      refine g_3_3 C hE dX3_factor_80 ho kw_2_21 rfl ?_
      refine a_ldcS (j := 4) C dX3_factor_83 rfl rfl rfl rfl ?_
      refine a_callVI C (c_X6_isWord l G cy L E hE u62 (ms_at E o 3) 4 k1 (by decide) _ h) k1 rfl (by decide) kw_3_237 kw_3_238 kw_3_239 kw_1_7 kw_4_0 rfl rfl pd_X6_isWord ⟨(by simp only [ms_rm]; omega), (by simp only [ms_rm]; omega)⟩ dX3_factor_85 rfl (Nat.le_of_ble_eq_true rfl) ⟨(Nat.le_of_ble_eq_true rfl), (Nat.le_of_ble_eq_true rfl)⟩ rfl (fun r85 u85 h => ?_)
      refine a_if_eq (tgt := 103) C dX3_factor_88 (by decide) rfl (fun hc => ?_) (fun hc => ?_)
      · replace h := h.1 hc
        refine a_aload_n C dX3_factor_103 rfl 0 rfl rfl ?_
        refine g_3_3 C hE dX3_factor_104 ho kw_2_21 rfl ?_
        refine a_ldcS (j := 10) C dX3_factor_107 rfl rfl rfl rfl ?_
        refine a_callVI C (c_X6_isWord l G cy L E hE u85 (ms_at E o 3) 10 k1 (by decide) _ h) k1 rfl (by decide) kw_3_237 kw_3_238 kw_3_239 kw_1_7 kw_4_0 rfl rfl pd_X6_isWord ⟨(by simp only [ms_rm]; omega), (by simp only [ms_rm]; omega)⟩ dX3_factor_109 rfl (Nat.le_of_ble_eq_true rfl) ⟨(Nat.le_of_ble_eq_true rfl), (Nat.le_of_ble_eq_true rfl)⟩ rfl (fun r109 u109 h => ?_)
        refine a_if_eq (tgt := 127) C dX3_factor_112 (by decide) rfl (fun hc => ?_) (fun hc => ?_)
        · replace h := h.1 hc
          refine a_aload_n C dX3_factor_127 rfl 0 rfl rfl ?_
          refine g_3_3 C hE dX3_factor_128 ho kw_2_21 rfl ?_
          refine g_6_0 C dX3_factor_131 k1 kw_1_219 rfl ?_
          refine a_iconst (v := 1) C dX3_factor_134 (by decide) rfl ?_
          refine a_icmp_ne (tgt := 168) C dX3_factor_135 (by decide) rfl (fun hc => ?_) (fun hc => ?_)
          · replace h := h.2 hc
            refine a_sub (lv' := [(0, .ref (L o))]) [0] rfl ?_
            exact c_X3_factor_168 C hr hlocks hE hrec ho  u109  h
          · replace h := h.1 hc
            refine a_aload_n C dX3_factor_138 rfl 0 rfl rfl ?_
            refine g_3_3 C hE dX3_factor_139 ho kw_2_21 rfl ?_
            refine g_6_2 C dX3_factor_142 k1 kw_1_223 rfl ?_
            refine a_sipush (v := 9999) C dX3_factor_145 (by decide) rfl ?_
            refine a_icmp_gt (tgt := 168) C dX3_factor_148 (by decide) rfl (fun hc => ?_) (fun hc => ?_)
            · replace h := h.1 hc
              refine a_sub (lv' := [(0, .ref (L o))]) [0] rfl ?_
              exact c_X3_factor_168 C hr hlocks hE hrec ho  u109  h
            · replace h := h.2 hc
              refine a_aload_n C dX3_factor_151 rfl 0 rfl rfl ?_
              refine g_3_4 C hE dX3_factor_152 ho kw_2_22 rfl ?_
              have k152 : ms_is E (ms_at E o 4) 8 := ms_wt hE ho rfl (by decide)
              refine a_aload_n C dX3_factor_155 rfl 0 rfl rfl ?_
              refine g_3_3 C hE dX3_factor_156 ho kw_2_21 rfl ?_
              refine g_6_2 C dX3_factor_159 k1 kw_1_223 rfl ?_
              refine a_callVV C (c_X8_add l G cy L E hE u109 (ms_at E o 4) (ms_I u109 (ms_at E o 3) 2) k152 _ h) k152 rfl (by decide) kw_4_111 kw_4_112 kw_4_113 kw_1_8 kw_4_114 rfl rfl pd_X8_add ⟨(by simp only [ms_rm]; omega), (by simp only [ms_rm]; omega)⟩ dX3_factor_162 rfl (Nat.le_of_ble_eq_true rfl) ⟨(Nat.le_of_ble_eq_true rfl), (Nat.le_of_ble_eq_true rfl)⟩ rfl (fun u162 h => ?_)
              refine a_goto (tgt := 191) C dX3_factor_165 (by decide) ?_
              refine a_sub (lv' := [(0, .ref (L o))]) [0] rfl ?_
              exact c_X3_factor_191 C hr hlocks hE hrec ho  u162  h
        · replace h := h.2 hc
          refine a_aload_n C dX3_factor_115 rfl 0 rfl rfl ?_
          refine g_3_4 C hE dX3_factor_116 ho kw_2_22 rfl ?_
          have k116 : ms_is E (ms_at E o 4) 8 := ms_wt hE ho rfl (by decide)
          refine a_bipush (v := (-3)) C dX3_factor_119 (by decide) rfl ?_
          refine a_callVV C (c_X8_add l G cy L E hE u109 (ms_at E o 4) (-3) k116 _ h) k116 rfl (by decide) kw_4_111 kw_4_112 kw_4_113 kw_1_8 kw_4_114 rfl rfl pd_X8_add ⟨(by simp only [ms_rm]; omega), (by simp only [ms_rm]; omega)⟩ dX3_factor_121 rfl (Nat.le_of_ble_eq_true rfl) ⟨(Nat.le_of_ble_eq_true rfl), (Nat.le_of_ble_eq_true rfl)⟩ rfl (fun u121 h => ?_)
          refine a_goto (tgt := 191) C dX3_factor_124 (by decide) ?_
          refine a_sub (lv' := [(0, .ref (L o))]) [0] rfl ?_
          exact c_X3_factor_191 C hr hlocks hE hrec ho  u121  h
      · replace h := h.2 hc
        refine a_aload_n C dX3_factor_91 rfl 0 rfl rfl ?_
        refine g_3_4 C hE dX3_factor_92 ho kw_2_22 rfl ?_
        have k92 : ms_is E (ms_at E o 4) 8 := ms_wt hE ho rfl (by decide)
        refine a_bipush (v := (-2)) C dX3_factor_95 (by decide) rfl ?_
        refine a_callVV C (c_X8_add l G cy L E hE u85 (ms_at E o 4) (-2) k92 _ h) k92 rfl (by decide) kw_4_111 kw_4_112 kw_4_113 kw_1_8 kw_4_114 rfl rfl pd_X8_add ⟨(by simp only [ms_rm]; omega), (by simp only [ms_rm]; omega)⟩ dX3_factor_97 rfl (Nat.le_of_ble_eq_true rfl) ⟨(Nat.le_of_ble_eq_true rfl), (Nat.le_of_ble_eq_true rfl)⟩ rfl (fun u97 h => ?_)
        refine a_goto (tgt := 191) C dX3_factor_100 (by decide) ?_
        refine a_sub (lv' := [(0, .ref (L o))]) [0] rfl ?_
        exact c_X3_factor_191 C hr hlocks hE hrec ho  u97  h
    · replace h := h.2 hc
      refine a_aload_n C dX3_factor_68 rfl 0 rfl rfl ?_
      refine g_3_4 C hE dX3_factor_69 ho kw_2_22 rfl ?_
      have k69 : ms_is E (ms_at E o 4) 8 := ms_wt hE ho rfl (by decide)
      refine a_iconst (v := (-1)) C dX3_factor_72 (by decide) rfl ?_
      refine a_callVV C (c_X8_add l G cy L E hE u62 (ms_at E o 4) (-1) k69 _ h) k69 rfl (by decide) kw_4_111 kw_4_112 kw_4_113 kw_1_8 kw_4_114 rfl rfl pd_X8_add ⟨(by simp only [ms_rm]; omega), (by simp only [ms_rm]; omega)⟩ dX3_factor_73 rfl (Nat.le_of_ble_eq_true rfl) ⟨(Nat.le_of_ble_eq_true rfl), (Nat.le_of_ble_eq_true rfl)⟩ rfl (fun u73 h => ?_)
      refine a_goto (tgt := 191) C dX3_factor_76 (by decide) ?_
      refine a_sub (lv' := [(0, .ref (L o))]) [0] rfl ?_
      exact c_X3_factor_191 C hr hlocks hE hrec ho  u73  h
  · replace h := h.2 hc
    refine a_iload_n C dX3_factor_12 rfl 1 rfl rfl ?_
    refine a_iconst (v := 4) C dX3_factor_13 (by decide) rfl ?_
    refine a_icmp_lt (tgt := 24) C dX3_factor_14 (by decide) rfl (fun hc => ?_) (fun hc => ?_)
    · replace h := h.1 hc
      refine a_aload_n C dX3_factor_24 rfl 0 rfl rfl ?_
      refine g_3_3 C hE dX3_factor_25 ho kw_2_21 rfl ?_
      refine a_callVV C (c_X6_advance l G cy L E hE u6 (ms_at E o 3) k1 _ h) k1 rfl (by decide) kw_4_53 kw_3_222 kw_3_223 kw_1_7 kw_3_224 rfl rfl pd_X6_advance ⟨(by simp only [ms_rm]; omega), (by simp only [ms_rm]; omega)⟩ dX3_factor_28 rfl (Nat.le_of_ble_eq_true rfl) ⟨(Nat.le_of_ble_eq_true rfl), (Nat.le_of_ble_eq_true rfl)⟩ rfl (fun u28 h => ?_)
      refine a_aload_n C dX3_factor_31 rfl 0 rfl rfl ?_
      refine a_iload_n C dX3_factor_32 rfl 1 rfl rfl ?_
      refine a_iconst (v := 1) C dX3_factor_33 (by decide) rfl ?_
      refine a_iadd C dX3_factor_34 rfl ?_
      refine a_callVI C (hrec u28 o (a1 + 1) _ ho h) ho rfl (by decide) kw_4_98 kw_4_100 kp_21 kw_1_6 kw_4_101 rfl rfl pd_X3_sum ⟨(by simp only [ms_rm]; omega), (by simp only [ms_rm]; omega)⟩ dX3_factor_35 rfl (Nat.le_of_ble_eq_true rfl) ⟨(Nat.le_of_ble_eq_true rfl), (Nat.le_of_ble_eq_true rfl)⟩ rfl (fun r35 u35 h => ?_)
      refine a_if_eq (tgt := 54) C dX3_factor_38 (by decide) rfl (fun hc => ?_) (fun hc => ?_)
      · replace h := h.1 hc
        refine a_sub (lv' := []) [] rfl ?_
        exact c_X3_factor_54 C hr hlocks hE hrec ho  u35  h
      · replace h := h.2 hc
        refine a_aload_n C dX3_factor_41 rfl 0 rfl rfl ?_
        refine a_bipush (v := 41) C dX3_factor_42 (by decide) rfl ?_
        refine a_callVI C (c_X3_expect l G cy L E hE u35 o 41 ho _ h) ho rfl (by decide) kw_4_58 kw_4_60 kp_16 kw_1_6 kw_4_61 rfl rfl pd_X3_expect ⟨(by simp only [ms_rm]; omega), (by simp only [ms_rm]; omega)⟩ dX3_factor_44 rfl (Nat.le_of_ble_eq_true rfl) ⟨(Nat.le_of_ble_eq_true rfl), (Nat.le_of_ble_eq_true rfl)⟩ rfl (fun r44 u44 h => ?_)
        refine a_if_eq (tgt := 54) C dX3_factor_47 (by decide) rfl (fun hc => ?_) (fun hc => ?_)
        · replace h := h.1 hc
          refine a_sub (lv' := []) [] rfl ?_
          exact c_X3_factor_54 C hr hlocks hE hrec ho  u44  h
        · replace h := h.2 hc
          refine a_iconst (v := 1) C dX3_factor_50 (by decide) rfl ?_
          refine a_goto (tgt := 55) C dX3_factor_51 (by decide) ?_
          refine a_sub (lv' := []) [] rfl ?_
          exact c_X3_factor_55 C hr hlocks hE hrec ho  u44 1  h
    · replace h := h.2 hc
      refine a_aload_n C dX3_factor_17 rfl 0 rfl rfl ?_
      refine a_bipush (v := (-5)) C dX3_factor_18 (by decide) rfl ?_
      refine a_callVI C (c_X3_fail l G cy L E hE u6 o (-5) ho _ h) ho rfl (by decide) kw_4_49 kw_4_51 kp_14 kw_1_6 kw_4_52 rfl rfl pd_X3_fail ⟨(by simp only [ms_rm]; omega), (by simp only [ms_rm]; omega)⟩ dX3_factor_20 rfl (Nat.le_of_ble_eq_true rfl) ⟨(Nat.le_of_ble_eq_true rfl), (Nat.le_of_ble_eq_true rfl)⟩ rfl (fun r20 u20 h => ?_)
      obtain ⟨q23, h⟩ := h
      exact a_zret C dX3_factor_23 hr hlocks (Nat.le_of_ble_eq_true rfl) (Nat.le_of_ble_eq_true rfl) (ms_nz q23) h

/-! CensusWalk$SetupReader.term(I)Z -/
theorem pd_X3_term : (⟨"CensusWalk$SetupReader", "term", "(I)Z"⟩ : MethodName).cls = "CensusWalk$SetupReader" ∧ (⟨"CensusWalk$SetupReader", "term", "(I)Z"⟩ : MethodName).cls ≠ "java/lang/invoke/MethodHandle" ∧ (⟨"CensusWalk$SetupReader", "term", "(I)Z"⟩ : MethodName).cls ≠ "java/lang/invoke/VarHandle" ∧ (parseMethodDescriptor (⟨"CensusWalk$SetupReader", "term", "(I)Z"⟩ : MethodName).desc).map (fun d => d.parameters.length) = some 1 := by decide +kernel
def wp_X3_term_94 (E : ms_En) (rec : ms_St → Nat → Int32 → (Int32 → ms_St → Prop) → Prop) (o : Nat) (a1 : Int32) (post : Int32 → ms_St → Prop)  (u : ms_St)  : Prop := post 1 u
set_option maxHeartbeats 4000000 in
set_option maxRecDepth 100000 in
theorem c_X3_term_94 {p : Program} {l : Launch} {e : Env} {s : State} {m : MethodId} {args : Array Value} {below : List Frame} {meth : Method} {c : Code} {G : va_G} {cy : Nat → ClassId} {A : Nat → Prop} {L : Nat → Nat} {E : ms_En} (C : ms_Cx p m c cX3_term 4 s args (Cond.code ⟨"CensusWalk$SetupReader", "term", "(I)Z"⟩ prog_5_method_9_code 4 (some .boolean)) "CensusWalk$SetupReader" G cy A) (hr : meth.sig.returnType = (some .boolean)) (hlocks : meth.locks = false) (hE : ms_WT E) {d : Nat} {rec : ms_St → Nat → Int32 → (Int32 → ms_St → Prop) → Prop} (hrec : ∀ (u : ms_St) (o : Nat) (a1 : Int32) (post : Int32 → ms_St → Prop), ms_is E o 3 → rec u o a1 post → ms_MetI l ⟨"CensusWalk$SetupReader", "sum", "(I)Z"⟩ (Cond.code ⟨"CensusWalk$SetupReader", "sum", "(I)Z"⟩ prog_5_method_8_code 4 (some .boolean) :: lw_g) (ms_rm d 0) G cy L E [.ref (L o), .int a1] u post 0 0) {o : Nat} {a1 : Int32} {post : Int32 → ms_St → Prop}  (ho : ms_is E o 3)  (u : ms_St)   (h : wp_X3_term_94 E rec o a1 post u ) : ms_At p l e (ms_rm d 2) s m args below meth c 4 G cy A L 0 0 (ms_QI below args s G cy L E A post 0 0) E u 94 [] [] := by
  unfold wp_X3_term_94 at h
  refine a_iconst (v := 1) C dX3_term_94 (by decide) rfl ?_
  exact a_zret C dX3_term_95 hr hlocks (Nat.le_of_ble_eq_true rfl) (Nat.le_of_ble_eq_true rfl) rfl h
def wp_X3_term_62 (E : ms_En) (rec : ms_St → Nat → Int32 → (Int32 → ms_St → Prop) → Prop) (o : Nat) (a1 : Int32) (post : Int32 → ms_St → Prop) (k12 : ms_St → Int32 → Prop) (u : ms_St) (x2 : Int32) (z0 : Int32) : Prop := wp_X6_advance E u (ms_at E o 3) (fun u67 => wp_X3_factor E rec u67 o a1 (fun r72 u72 => (r72 = 0 → post 0 u72) ∧ (¬ r72 = 0 → wp_X8_add E u72 (ms_at E o 4) z0 (fun u85 => k12 u85 (x2 + 1)))))
set_option maxHeartbeats 4000000 in
set_option maxRecDepth 100000 in
theorem c_X3_term_62 {p : Program} {l : Launch} {e : Env} {s : State} {m : MethodId} {args : Array Value} {below : List Frame} {meth : Method} {c : Code} {G : va_G} {cy : Nat → ClassId} {A : Nat → Prop} {L : Nat → Nat} {E : ms_En} (C : ms_Cx p m c cX3_term 4 s args (Cond.code ⟨"CensusWalk$SetupReader", "term", "(I)Z"⟩ prog_5_method_9_code 4 (some .boolean)) "CensusWalk$SetupReader" G cy A) (hr : meth.sig.returnType = (some .boolean)) (hlocks : meth.locks = false) (hE : ms_WT E) {d : Nat} {rec : ms_St → Nat → Int32 → (Int32 → ms_St → Prop) → Prop} (hrec : ∀ (u : ms_St) (o : Nat) (a1 : Int32) (post : Int32 → ms_St → Prop), ms_is E o 3 → rec u o a1 post → ms_MetI l ⟨"CensusWalk$SetupReader", "sum", "(I)Z"⟩ (Cond.code ⟨"CensusWalk$SetupReader", "sum", "(I)Z"⟩ prog_5_method_8_code 4 (some .boolean) :: lw_g) (ms_rm d 0) G cy L E [.ref (L o), .int a1] u post 0 0) {o : Nat} {a1 : Int32} {post : Int32 → ms_St → Prop} {k12 : ms_St → Int32 → Prop} (ho : ms_is E o 3) (hk12 : ∀ (u : ms_St) (x2 : Int32), k12 u x2 → ms_At p l e (ms_rm d 2) s m args below meth c 4 G cy A L 0 0 (ms_QI below args s G cy L E A post 0 0) E u 12 [(0, .ref (L o)), (1, .int a1), (2, .int x2)] []) (u : ms_St) (x2 : Int32) (z0 : Int32)  (h : wp_X3_term_62 E rec o a1 post k12 u x2 z0) : ms_At p l e (ms_rm d 2) s m args below meth c 4 G cy A L 0 0 (ms_QI below args s G cy L E A post 0 0) E u 62 [(0, .ref (L o)), (1, .int a1), (2, .int x2)] [.int z0] := by
  unfold wp_X3_term_62 at h
  refine a_istore_n (lv' := [(0, .ref (L o)), (1, .int a1), (2, .int x2), (3, .int z0)]) C dX3_term_62 rfl (by decide) [1, 2, 3, 0] rfl rfl ?_
  refine a_aload_n C dX3_term_63 rfl 0 rfl rfl ?_
  refine g_3_3 C hE dX3_term_64 ho kw_2_21 rfl ?_
  have k64 : ms_is E (ms_at E o 3) 6 := ms_wt hE ho rfl (by decide)
  refine a_callVV C (c_X6_advance l G cy L E hE u (ms_at E o 3) k64 _ h) k64 rfl (by decide) kw_4_53 kw_3_222 kw_3_223 kw_1_7 kw_3_224 rfl rfl pd_X6_advance ⟨(by simp only [ms_rm]; omega), (by simp only [ms_rm]; omega)⟩ dX3_term_67 rfl (Nat.le_of_ble_eq_true rfl) ⟨(Nat.le_of_ble_eq_true rfl), (Nat.le_of_ble_eq_true rfl)⟩ rfl (fun u67 h => ?_)
  refine a_aload_n C dX3_term_70 rfl 0 rfl rfl ?_
  refine a_iload_n C dX3_term_71 rfl 1 rfl rfl ?_
  refine a_callVI C (c_X3_factor l G cy L E hE rec hrec u67 o a1 ho _ h) ho rfl (by decide) kw_4_106 kw_4_108 kp_23 kw_1_6 kw_4_109 rfl rfl pd_X3_factor ⟨(by simp only [ms_rm]; omega), (by simp only [ms_rm]; omega)⟩ dX3_term_72 rfl (Nat.le_of_ble_eq_true rfl) ⟨(Nat.le_of_ble_eq_true rfl), (Nat.le_of_ble_eq_true rfl)⟩ rfl (fun r72 u72 h => ?_)
  refine a_if_ne (tgt := 80) C dX3_term_75 (by decide) rfl (fun hc => ?_) (fun hc => ?_)
  · replace h := h.2 hc
    refine a_aload_n C dX3_term_80 rfl 0 rfl rfl ?_
    refine g_3_4 C hE dX3_term_81 ho kw_2_22 rfl ?_
    have k81 : ms_is E (ms_at E o 4) 8 := ms_wt hE ho rfl (by decide)
    refine a_iload_n C dX3_term_84 rfl 3 rfl rfl ?_
    refine a_callVV C (c_X8_add l G cy L E hE u72 (ms_at E o 4) z0 k81 _ h) k81 rfl (by decide) kw_4_111 kw_4_112 kw_4_113 kw_1_8 kw_4_114 rfl rfl pd_X8_add ⟨(by simp only [ms_rm]; omega), (by simp only [ms_rm]; omega)⟩ dX3_term_85 rfl (Nat.le_of_ble_eq_true rfl) ⟨(Nat.le_of_ble_eq_true rfl), (Nat.le_of_ble_eq_true rfl)⟩ rfl (fun u85 h => ?_)
    refine a_iinc (lv' := [(0, .ref (L o)), (1, .int a1), (2, .int (x2 + 1)), (3, .int z0)]) (v := (x2 + 1)) C dX3_term_88 2 rfl (congrArg (fun z => x2 + z) (by decide)) (by decide) [1, 2, 0, 3] rfl rfl ?_
    refine a_goto (tgt := 12) C dX3_term_91 (by decide) ?_
    refine a_sub (lv' := [(0, .ref (L o)), (1, .int a1), (2, .int (x2 + 1))]) [0, 1, 2] rfl ?_
    exact hk12 u85 (x2 + 1)  h
  · replace h := h.1 hc
    refine a_iconst (v := 0) C dX3_term_78 (by decide) rfl ?_
    exact a_zret C dX3_term_79 hr hlocks (Nat.le_of_ble_eq_true rfl) (Nat.le_of_ble_eq_true rfl) rfl h
def wp_X3_term_43 (E : ms_En) (rec : ms_St → Nat → Int32 → (Int32 → ms_St → Prop) → Prop) (o : Nat) (a1 : Int32) (post : Int32 → ms_St → Prop) (k12 : ms_St → Int32 → Prop) (u : ms_St) (x2 : Int32) : Prop := wp_X6_isSign E u (ms_at E o 3) 42 (fun r49 u49 => (r49 = 0 → wp_X3_term_62 E rec o a1 post k12 u49 x2 (-7)) ∧ (¬ r49 = 0 → wp_X3_term_62 E rec o a1 post k12 u49 x2 (-6)))
set_option maxHeartbeats 4000000 in
set_option maxRecDepth 100000 in
theorem c_X3_term_43 {p : Program} {l : Launch} {e : Env} {s : State} {m : MethodId} {args : Array Value} {below : List Frame} {meth : Method} {c : Code} {G : va_G} {cy : Nat → ClassId} {A : Nat → Prop} {L : Nat → Nat} {E : ms_En} (C : ms_Cx p m c cX3_term 4 s args (Cond.code ⟨"CensusWalk$SetupReader", "term", "(I)Z"⟩ prog_5_method_9_code 4 (some .boolean)) "CensusWalk$SetupReader" G cy A) (hr : meth.sig.returnType = (some .boolean)) (hlocks : meth.locks = false) (hE : ms_WT E) {d : Nat} {rec : ms_St → Nat → Int32 → (Int32 → ms_St → Prop) → Prop} (hrec : ∀ (u : ms_St) (o : Nat) (a1 : Int32) (post : Int32 → ms_St → Prop), ms_is E o 3 → rec u o a1 post → ms_MetI l ⟨"CensusWalk$SetupReader", "sum", "(I)Z"⟩ (Cond.code ⟨"CensusWalk$SetupReader", "sum", "(I)Z"⟩ prog_5_method_8_code 4 (some .boolean) :: lw_g) (ms_rm d 0) G cy L E [.ref (L o), .int a1] u post 0 0) {o : Nat} {a1 : Int32} {post : Int32 → ms_St → Prop} {k12 : ms_St → Int32 → Prop} (ho : ms_is E o 3) (hk12 : ∀ (u : ms_St) (x2 : Int32), k12 u x2 → ms_At p l e (ms_rm d 2) s m args below meth c 4 G cy A L 0 0 (ms_QI below args s G cy L E A post 0 0) E u 12 [(0, .ref (L o)), (1, .int a1), (2, .int x2)] []) (u : ms_St) (x2 : Int32)  (h : wp_X3_term_43 E rec o a1 post k12 u x2) : ms_At p l e (ms_rm d 2) s m args below meth c 4 G cy A L 0 0 (ms_QI below args s G cy L E A post 0 0) E u 43 [(0, .ref (L o)), (1, .int a1), (2, .int x2)] [] := by
  unfold wp_X3_term_43 at h
  refine a_aload_n C dX3_term_43 rfl 0 rfl rfl ?_
  refine g_3_3 C hE dX3_term_44 ho kw_2_21 rfl ?_
  have k44 : ms_is E (ms_at E o 3) 6 := ms_wt hE ho rfl (by decide)
  refine a_bipush (v := 42) C dX3_term_47 (by decide) rfl ?_
  refine a_callVI C (c_X6_isSign l G cy L E hE u (ms_at E o 3) 42 k44 _ h) k44 rfl (by decide) kw_4_62 kw_4_63 kw_4_64 kw_1_7 kw_4_65 rfl rfl pd_X6_isSign ⟨(by simp only [ms_rm]; omega), (by simp only [ms_rm]; omega)⟩ dX3_term_49 rfl (Nat.le_of_ble_eq_true rfl) ⟨(Nat.le_of_ble_eq_true rfl), (Nat.le_of_ble_eq_true rfl)⟩ rfl (fun r49 u49 h => ?_)
  refine a_if_eq (tgt := 60) C dX3_term_52 (by decide) rfl (fun hc => ?_) (fun hc => ?_)
  · replace h := h.1 hc
    refine a_bipush (v := (-7)) C dX3_term_60 (by decide) rfl ?_
    exact c_X3_term_62 C hr hlocks hE hrec ho hk12 u49 x2 (-7)  h
  · replace h := h.2 hc
    refine a_bipush (v := (-6)) C dX3_term_55 (by decide) rfl ?_
    refine a_goto (tgt := 62) C dX3_term_57 (by decide) ?_
    exact c_X3_term_62 C hr hlocks hE hrec ho hk12 u49 x2 (-6)  h
def wp_X3_term_12 (E : ms_En) (rec : ms_St → Nat → Int32 → (Int32 → ms_St → Prop) → Prop) (o : Nat) (a1 : Int32) (post : Int32 → ms_St → Prop)  : Nat → ms_St → Int32 → Prop
  | 0 => fun _ _ => False
  | n + 1 => fun u x2 => (900 ≤ x2 → wp_X3_term_94 E rec o a1 post u) ∧ (¬ 900 ≤ x2 → wp_X6_isSign E u (ms_at E o 3) 42 (fun r25 u25 => (r25 = 0 → wp_X6_isSign E u25 (ms_at E o 3) 47 (fun r37 u37 => (r37 = 0 → wp_X3_term_94 E rec o a1 post u37) ∧ (¬ r37 = 0 → wp_X3_term_43 E rec o a1 post (wp_X3_term_12 E rec o a1 post n) u37 x2))) ∧ (¬ r25 = 0 → wp_X3_term_43 E rec o a1 post (wp_X3_term_12 E rec o a1 post n) u25 x2)))
set_option maxHeartbeats 4000000 in
set_option maxRecDepth 100000 in
theorem c_X3_term_12 {p : Program} {l : Launch} {e : Env} {s : State} {m : MethodId} {args : Array Value} {below : List Frame} {meth : Method} {c : Code} {G : va_G} {cy : Nat → ClassId} {A : Nat → Prop} {L : Nat → Nat} {E : ms_En} (C : ms_Cx p m c cX3_term 4 s args (Cond.code ⟨"CensusWalk$SetupReader", "term", "(I)Z"⟩ prog_5_method_9_code 4 (some .boolean)) "CensusWalk$SetupReader" G cy A) (hr : meth.sig.returnType = (some .boolean)) (hlocks : meth.locks = false) (hE : ms_WT E) {d : Nat} {rec : ms_St → Nat → Int32 → (Int32 → ms_St → Prop) → Prop} (hrec : ∀ (u : ms_St) (o : Nat) (a1 : Int32) (post : Int32 → ms_St → Prop), ms_is E o 3 → rec u o a1 post → ms_MetI l ⟨"CensusWalk$SetupReader", "sum", "(I)Z"⟩ (Cond.code ⟨"CensusWalk$SetupReader", "sum", "(I)Z"⟩ prog_5_method_8_code 4 (some .boolean) :: lw_g) (ms_rm d 0) G cy L E [.ref (L o), .int a1] u post 0 0) {o : Nat} {a1 : Int32} {post : Int32 → ms_St → Prop}  (ho : ms_is E o 3)  : ∀ (n : Nat) (u : ms_St) (x2 : Int32), wp_X3_term_12 E rec o a1 post n u x2 → ms_At p l e (ms_rm d 2) s m args below meth c 4 G cy A L 0 0 (ms_QI below args s G cy L E A post 0 0) E u 12 [(0, .ref (L o)), (1, .int a1), (2, .int x2)] [] := by
  intro n
  induction n with
  | zero =>
    intro u x2  h
    exact absurd h id
  | succ n ih =>
    intro u x2  h
    unfold wp_X3_term_12 at h
    refine a_iload_n C dX3_term_12 rfl 2 rfl rfl ?_
    refine a_sipush (v := 900) C dX3_term_13 (by decide) rfl ?_
    refine a_icmp_ge (tgt := 94) C dX3_term_16 (by decide) rfl (fun hc => ?_) (fun hc => ?_)
    · replace h := h.1 hc
      refine a_sub (lv' := []) [] rfl ?_
      exact c_X3_term_94 C hr hlocks hE hrec ho  u  h
    · replace h := h.2 hc
      refine a_aload_n C dX3_term_19 rfl 0 rfl rfl ?_
      refine g_3_3 C hE dX3_term_20 ho kw_2_21 rfl ?_
      have k20 : ms_is E (ms_at E o 3) 6 := ms_wt hE ho rfl (by decide)
      refine a_bipush (v := 42) C dX3_term_23 (by decide) rfl ?_
      refine a_callVI C (c_X6_isSign l G cy L E hE u (ms_at E o 3) 42 k20 _ h) k20 rfl (by decide) kw_4_62 kw_4_63 kw_4_64 kw_1_7 kw_4_65 rfl rfl pd_X6_isSign ⟨(by simp only [ms_rm]; omega), (by simp only [ms_rm]; omega)⟩ dX3_term_25 rfl (Nat.le_of_ble_eq_true rfl) ⟨(Nat.le_of_ble_eq_true rfl), (Nat.le_of_ble_eq_true rfl)⟩ rfl (fun r25 u25 h => ?_)
      refine a_if_ne (tgt := 43) C dX3_term_28 (by decide) rfl (fun hc => ?_) (fun hc => ?_)
      · replace h := h.2 hc
        exact c_X3_term_43 C hr hlocks hE hrec ho ih u25 x2  h
      · replace h := h.1 hc
        refine a_aload_n C dX3_term_31 rfl 0 rfl rfl ?_
        refine g_3_3 C hE dX3_term_32 ho kw_2_21 rfl ?_
        refine a_bipush (v := 47) C dX3_term_35 (by decide) rfl ?_
        refine a_callVI C (c_X6_isSign l G cy L E hE u25 (ms_at E o 3) 47 k20 _ h) k20 rfl (by decide) kw_4_62 kw_4_63 kw_4_64 kw_1_7 kw_4_65 rfl rfl pd_X6_isSign ⟨(by simp only [ms_rm]; omega), (by simp only [ms_rm]; omega)⟩ dX3_term_37 rfl (Nat.le_of_ble_eq_true rfl) ⟨(Nat.le_of_ble_eq_true rfl), (Nat.le_of_ble_eq_true rfl)⟩ rfl (fun r37 u37 h => ?_)
        refine a_if_eq (tgt := 94) C dX3_term_40 (by decide) rfl (fun hc => ?_) (fun hc => ?_)
        · replace h := h.1 hc
          refine a_sub (lv' := []) [] rfl ?_
          exact c_X3_term_94 C hr hlocks hE hrec ho  u37  h
        · replace h := h.2 hc
          exact c_X3_term_43 C hr hlocks hE hrec ho ih u37 x2  h
def wp_X3_term (E : ms_En) (rec : ms_St → Nat → Int32 → (Int32 → ms_St → Prop) → Prop) (u : ms_St) (o : Nat) (a1 : Int32) (post : Int32 → ms_St → Prop) : Prop := wp_X3_factor E rec u o a1 (fun r2 u2 => (r2 = 0 → post 0 u2) ∧ (¬ r2 = 0 → ∃ n12, wp_X3_term_12 E rec o a1 post n12 u2 0))
set_option maxHeartbeats 4000000 in
set_option maxRecDepth 100000 in
theorem c_X3_term (l : Launch) (G : va_G) (cy : Nat → ClassId) (L : Nat → Nat) (E : ms_En) (hE : ms_WT E) {d : Nat} (rec : ms_St → Nat → Int32 → (Int32 → ms_St → Prop) → Prop) (hrec : ∀ (u : ms_St) (o : Nat) (a1 : Int32) (post : Int32 → ms_St → Prop), ms_is E o 3 → rec u o a1 post → ms_MetI l ⟨"CensusWalk$SetupReader", "sum", "(I)Z"⟩ (Cond.code ⟨"CensusWalk$SetupReader", "sum", "(I)Z"⟩ prog_5_method_8_code 4 (some .boolean) :: lw_g) (ms_rm d 0) G cy L E [.ref (L o), .int a1] u post 0 0) (u : ms_St) (o : Nat) (a1 : Int32) (ho : ms_is E o 3) (post : Int32 → ms_St → Prop) (h : wp_X3_term E rec u o a1 post) : ms_MetI l ⟨"CensusWalk$SetupReader", "term", "(I)Z"⟩ (Cond.code ⟨"CensusWalk$SetupReader", "term", "(I)Z"⟩ prog_5_method_9_code 4 (some .boolean) :: lw_g) (ms_rm d 2) G cy L E [.ref (L o), .int a1] u post 0 0 := by
  refine ms_enterI (lv := [(0, .ref (L o)), (1, .int a1)]) (by decide) (Nat.le_of_ble_eq_true rfl) rfl ?_
  intro p e s m args below meth c A C hr hlocks
  unfold wp_X3_term at h
  refine a_aload_n C dX3_term_0 rfl 0 rfl rfl ?_
  refine a_iload_n C dX3_term_1 rfl 1 rfl rfl ?_
  refine a_callVI C (c_X3_factor l G cy L E hE rec hrec u o a1 ho _ h) ho rfl (by decide) kw_4_106 kw_4_108 kp_23 kw_1_6 kw_4_109 rfl rfl pd_X3_factor ⟨(by simp only [ms_rm]; omega), (by simp only [ms_rm]; omega)⟩ dX3_term_2 rfl (Nat.le_of_ble_eq_true rfl) ⟨(Nat.le_of_ble_eq_true rfl), (Nat.le_of_ble_eq_true rfl)⟩ rfl (fun r2 u2 h => ?_)
  refine a_if_ne (tgt := 10) C dX3_term_5 (by decide) rfl (fun hc => ?_) (fun hc => ?_)
  · replace h := h.2 hc
    refine a_iconst (v := 0) C dX3_term_10 (by decide) rfl ?_
    refine a_istore_n (lv' := [(0, .ref (L o)), (1, .int a1), (2, .int 0)]) C dX3_term_11 rfl (by decide) [1, 2, 0] rfl rfl ?_
    obtain ⟨n9, h⟩ := h
    exact c_X3_term_12 C hr hlocks hE hrec ho  n9 u2 0  h
  · replace h := h.1 hc
    refine a_iconst (v := 0) C dX3_term_8 (by decide) rfl ?_
    exact a_zret C dX3_term_9 hr hlocks (Nat.le_of_ble_eq_true rfl) (Nat.le_of_ble_eq_true rfl) rfl h

/-! CensusWalk$SetupReader.sum(I)Z -/
def wp_X3_sum_94 (E : ms_En) (rec : ms_St → Nat → Int32 → (Int32 → ms_St → Prop) → Prop) (o : Nat) (a1 : Int32) (post : Int32 → ms_St → Prop)  (u : ms_St)  : Prop := post 1 u
set_option maxHeartbeats 4000000 in
set_option maxRecDepth 100000 in
theorem c_X3_sum_94 {p : Program} {l : Launch} {e : Env} {s : State} {m : MethodId} {args : Array Value} {below : List Frame} {meth : Method} {c : Code} {G : va_G} {cy : Nat → ClassId} {A : Nat → Prop} {L : Nat → Nat} {E : ms_En} (C : ms_Cx p m c cX3_sum 4 s args (Cond.code ⟨"CensusWalk$SetupReader", "sum", "(I)Z"⟩ prog_5_method_8_code 4 (some .boolean)) "CensusWalk$SetupReader" G cy A) (hr : meth.sig.returnType = (some .boolean)) (hlocks : meth.locks = false) (hE : ms_WT E) {d : Nat} {rec : ms_St → Nat → Int32 → (Int32 → ms_St → Prop) → Prop} (hrec : ∀ (u : ms_St) (o : Nat) (a1 : Int32) (post : Int32 → ms_St → Prop), ms_is E o 3 → rec u o a1 post → ms_MetI l ⟨"CensusWalk$SetupReader", "sum", "(I)Z"⟩ (Cond.code ⟨"CensusWalk$SetupReader", "sum", "(I)Z"⟩ prog_5_method_8_code 4 (some .boolean) :: lw_g) (ms_rm d 0) G cy L E [.ref (L o), .int a1] u post 0 0) {o : Nat} {a1 : Int32} {post : Int32 → ms_St → Prop}  (ho : ms_is E o 3)  (u : ms_St)   (h : wp_X3_sum_94 E rec o a1 post u ) : ms_At p l e (ms_rm d 4) s m args below meth c 4 G cy A L 0 0 (ms_QI below args s G cy L E A post 0 0) E u 94 [] [] := by
  unfold wp_X3_sum_94 at h
  refine a_iconst (v := 1) C dX3_sum_94 (by decide) rfl ?_
  exact a_zret C dX3_sum_95 hr hlocks (Nat.le_of_ble_eq_true rfl) (Nat.le_of_ble_eq_true rfl) rfl h
def wp_X3_sum_62 (E : ms_En) (rec : ms_St → Nat → Int32 → (Int32 → ms_St → Prop) → Prop) (o : Nat) (a1 : Int32) (post : Int32 → ms_St → Prop) (k12 : ms_St → Int32 → Prop) (u : ms_St) (x2 : Int32) (z0 : Int32) : Prop := wp_X6_advance E u (ms_at E o 3) (fun u67 => wp_X3_term E rec u67 o a1 (fun r72 u72 => (r72 = 0 → post 0 u72) ∧ (¬ r72 = 0 → wp_X8_add E u72 (ms_at E o 4) z0 (fun u85 => k12 u85 (x2 + 1)))))
set_option maxHeartbeats 4000000 in
set_option maxRecDepth 100000 in
theorem c_X3_sum_62 {p : Program} {l : Launch} {e : Env} {s : State} {m : MethodId} {args : Array Value} {below : List Frame} {meth : Method} {c : Code} {G : va_G} {cy : Nat → ClassId} {A : Nat → Prop} {L : Nat → Nat} {E : ms_En} (C : ms_Cx p m c cX3_sum 4 s args (Cond.code ⟨"CensusWalk$SetupReader", "sum", "(I)Z"⟩ prog_5_method_8_code 4 (some .boolean)) "CensusWalk$SetupReader" G cy A) (hr : meth.sig.returnType = (some .boolean)) (hlocks : meth.locks = false) (hE : ms_WT E) {d : Nat} {rec : ms_St → Nat → Int32 → (Int32 → ms_St → Prop) → Prop} (hrec : ∀ (u : ms_St) (o : Nat) (a1 : Int32) (post : Int32 → ms_St → Prop), ms_is E o 3 → rec u o a1 post → ms_MetI l ⟨"CensusWalk$SetupReader", "sum", "(I)Z"⟩ (Cond.code ⟨"CensusWalk$SetupReader", "sum", "(I)Z"⟩ prog_5_method_8_code 4 (some .boolean) :: lw_g) (ms_rm d 0) G cy L E [.ref (L o), .int a1] u post 0 0) {o : Nat} {a1 : Int32} {post : Int32 → ms_St → Prop} {k12 : ms_St → Int32 → Prop} (ho : ms_is E o 3) (hk12 : ∀ (u : ms_St) (x2 : Int32), k12 u x2 → ms_At p l e (ms_rm d 4) s m args below meth c 4 G cy A L 0 0 (ms_QI below args s G cy L E A post 0 0) E u 12 [(0, .ref (L o)), (1, .int a1), (2, .int x2)] []) (u : ms_St) (x2 : Int32) (z0 : Int32)  (h : wp_X3_sum_62 E rec o a1 post k12 u x2 z0) : ms_At p l e (ms_rm d 4) s m args below meth c 4 G cy A L 0 0 (ms_QI below args s G cy L E A post 0 0) E u 62 [(0, .ref (L o)), (1, .int a1), (2, .int x2)] [.int z0] := by
  unfold wp_X3_sum_62 at h
  refine a_istore_n (lv' := [(0, .ref (L o)), (1, .int a1), (2, .int x2), (3, .int z0)]) C dX3_sum_62 rfl (by decide) [1, 2, 3, 0] rfl rfl ?_
  refine a_aload_n C dX3_sum_63 rfl 0 rfl rfl ?_
  refine g_3_3 C hE dX3_sum_64 ho kw_2_21 rfl ?_
  have k64 : ms_is E (ms_at E o 3) 6 := ms_wt hE ho rfl (by decide)
  refine a_callVV C (c_X6_advance l G cy L E hE u (ms_at E o 3) k64 _ h) k64 rfl (by decide) kw_4_53 kw_3_222 kw_3_223 kw_1_7 kw_3_224 rfl rfl pd_X6_advance ⟨(by simp only [ms_rm]; omega), (by simp only [ms_rm]; omega)⟩ dX3_sum_67 rfl (Nat.le_of_ble_eq_true rfl) ⟨(Nat.le_of_ble_eq_true rfl), (Nat.le_of_ble_eq_true rfl)⟩ rfl (fun u67 h => ?_)
  refine a_aload_n C dX3_sum_70 rfl 0 rfl rfl ?_
  refine a_iload_n C dX3_sum_71 rfl 1 rfl rfl ?_
  refine a_callVI C (c_X3_term l G cy L E hE rec hrec u67 o a1 ho _ h) ho rfl (by decide) kw_4_102 kw_4_104 kp_22 kw_1_6 kw_4_105 rfl rfl pd_X3_term ⟨(by simp only [ms_rm]; omega), (by simp only [ms_rm]; omega)⟩ dX3_sum_72 rfl (Nat.le_of_ble_eq_true rfl) ⟨(Nat.le_of_ble_eq_true rfl), (Nat.le_of_ble_eq_true rfl)⟩ rfl (fun r72 u72 h => ?_)
  refine a_if_ne (tgt := 80) C dX3_sum_75 (by decide) rfl (fun hc => ?_) (fun hc => ?_)
  · replace h := h.2 hc
    refine a_aload_n C dX3_sum_80 rfl 0 rfl rfl ?_
    refine g_3_4 C hE dX3_sum_81 ho kw_2_22 rfl ?_
    have k81 : ms_is E (ms_at E o 4) 8 := ms_wt hE ho rfl (by decide)
    refine a_iload_n C dX3_sum_84 rfl 3 rfl rfl ?_
    refine a_callVV C (c_X8_add l G cy L E hE u72 (ms_at E o 4) z0 k81 _ h) k81 rfl (by decide) kw_4_111 kw_4_112 kw_4_113 kw_1_8 kw_4_114 rfl rfl pd_X8_add ⟨(by simp only [ms_rm]; omega), (by simp only [ms_rm]; omega)⟩ dX3_sum_85 rfl (Nat.le_of_ble_eq_true rfl) ⟨(Nat.le_of_ble_eq_true rfl), (Nat.le_of_ble_eq_true rfl)⟩ rfl (fun u85 h => ?_)
    refine a_iinc (lv' := [(0, .ref (L o)), (1, .int a1), (2, .int (x2 + 1)), (3, .int z0)]) (v := (x2 + 1)) C dX3_sum_88 2 rfl (congrArg (fun z => x2 + z) (by decide)) (by decide) [1, 2, 0, 3] rfl rfl ?_
    refine a_goto (tgt := 12) C dX3_sum_91 (by decide) ?_
    refine a_sub (lv' := [(0, .ref (L o)), (1, .int a1), (2, .int (x2 + 1))]) [0, 1, 2] rfl ?_
    exact hk12 u85 (x2 + 1)  h
  · replace h := h.1 hc
    refine a_iconst (v := 0) C dX3_sum_78 (by decide) rfl ?_
    exact a_zret C dX3_sum_79 hr hlocks (Nat.le_of_ble_eq_true rfl) (Nat.le_of_ble_eq_true rfl) rfl h
def wp_X3_sum_43 (E : ms_En) (rec : ms_St → Nat → Int32 → (Int32 → ms_St → Prop) → Prop) (o : Nat) (a1 : Int32) (post : Int32 → ms_St → Prop) (k12 : ms_St → Int32 → Prop) (u : ms_St) (x2 : Int32) : Prop := wp_X6_isSign E u (ms_at E o 3) 43 (fun r49 u49 => (r49 = 0 → wp_X3_sum_62 E rec o a1 post k12 u49 x2 (-5)) ∧ (¬ r49 = 0 → wp_X3_sum_62 E rec o a1 post k12 u49 x2 (-4)))
set_option maxHeartbeats 4000000 in
set_option maxRecDepth 100000 in
theorem c_X3_sum_43 {p : Program} {l : Launch} {e : Env} {s : State} {m : MethodId} {args : Array Value} {below : List Frame} {meth : Method} {c : Code} {G : va_G} {cy : Nat → ClassId} {A : Nat → Prop} {L : Nat → Nat} {E : ms_En} (C : ms_Cx p m c cX3_sum 4 s args (Cond.code ⟨"CensusWalk$SetupReader", "sum", "(I)Z"⟩ prog_5_method_8_code 4 (some .boolean)) "CensusWalk$SetupReader" G cy A) (hr : meth.sig.returnType = (some .boolean)) (hlocks : meth.locks = false) (hE : ms_WT E) {d : Nat} {rec : ms_St → Nat → Int32 → (Int32 → ms_St → Prop) → Prop} (hrec : ∀ (u : ms_St) (o : Nat) (a1 : Int32) (post : Int32 → ms_St → Prop), ms_is E o 3 → rec u o a1 post → ms_MetI l ⟨"CensusWalk$SetupReader", "sum", "(I)Z"⟩ (Cond.code ⟨"CensusWalk$SetupReader", "sum", "(I)Z"⟩ prog_5_method_8_code 4 (some .boolean) :: lw_g) (ms_rm d 0) G cy L E [.ref (L o), .int a1] u post 0 0) {o : Nat} {a1 : Int32} {post : Int32 → ms_St → Prop} {k12 : ms_St → Int32 → Prop} (ho : ms_is E o 3) (hk12 : ∀ (u : ms_St) (x2 : Int32), k12 u x2 → ms_At p l e (ms_rm d 4) s m args below meth c 4 G cy A L 0 0 (ms_QI below args s G cy L E A post 0 0) E u 12 [(0, .ref (L o)), (1, .int a1), (2, .int x2)] []) (u : ms_St) (x2 : Int32)  (h : wp_X3_sum_43 E rec o a1 post k12 u x2) : ms_At p l e (ms_rm d 4) s m args below meth c 4 G cy A L 0 0 (ms_QI below args s G cy L E A post 0 0) E u 43 [(0, .ref (L o)), (1, .int a1), (2, .int x2)] [] := by
  unfold wp_X3_sum_43 at h
  refine a_aload_n C dX3_sum_43 rfl 0 rfl rfl ?_
  refine g_3_3 C hE dX3_sum_44 ho kw_2_21 rfl ?_
  have k44 : ms_is E (ms_at E o 3) 6 := ms_wt hE ho rfl (by decide)
  refine a_bipush (v := 43) C dX3_sum_47 (by decide) rfl ?_
  refine a_callVI C (c_X6_isSign l G cy L E hE u (ms_at E o 3) 43 k44 _ h) k44 rfl (by decide) kw_4_62 kw_4_63 kw_4_64 kw_1_7 kw_4_65 rfl rfl pd_X6_isSign ⟨(by simp only [ms_rm]; omega), (by simp only [ms_rm]; omega)⟩ dX3_sum_49 rfl (Nat.le_of_ble_eq_true rfl) ⟨(Nat.le_of_ble_eq_true rfl), (Nat.le_of_ble_eq_true rfl)⟩ rfl (fun r49 u49 h => ?_)
  refine a_if_eq (tgt := 60) C dX3_sum_52 (by decide) rfl (fun hc => ?_) (fun hc => ?_)
  · replace h := h.1 hc
    refine a_bipush (v := (-5)) C dX3_sum_60 (by decide) rfl ?_
    exact c_X3_sum_62 C hr hlocks hE hrec ho hk12 u49 x2 (-5)  h
  · replace h := h.2 hc
    refine a_bipush (v := (-4)) C dX3_sum_55 (by decide) rfl ?_
    refine a_goto (tgt := 62) C dX3_sum_57 (by decide) ?_
    exact c_X3_sum_62 C hr hlocks hE hrec ho hk12 u49 x2 (-4)  h
def wp_X3_sum_12 (E : ms_En) (rec : ms_St → Nat → Int32 → (Int32 → ms_St → Prop) → Prop) (o : Nat) (a1 : Int32) (post : Int32 → ms_St → Prop)  : Nat → ms_St → Int32 → Prop
  | 0 => fun _ _ => False
  | n + 1 => fun u x2 => (900 ≤ x2 → wp_X3_sum_94 E rec o a1 post u) ∧ (¬ 900 ≤ x2 → wp_X6_isSign E u (ms_at E o 3) 43 (fun r25 u25 => (r25 = 0 → wp_X6_isSign E u25 (ms_at E o 3) 45 (fun r37 u37 => (r37 = 0 → wp_X3_sum_94 E rec o a1 post u37) ∧ (¬ r37 = 0 → wp_X3_sum_43 E rec o a1 post (wp_X3_sum_12 E rec o a1 post n) u37 x2))) ∧ (¬ r25 = 0 → wp_X3_sum_43 E rec o a1 post (wp_X3_sum_12 E rec o a1 post n) u25 x2)))
set_option maxHeartbeats 4000000 in
set_option maxRecDepth 100000 in
theorem c_X3_sum_12 {p : Program} {l : Launch} {e : Env} {s : State} {m : MethodId} {args : Array Value} {below : List Frame} {meth : Method} {c : Code} {G : va_G} {cy : Nat → ClassId} {A : Nat → Prop} {L : Nat → Nat} {E : ms_En} (C : ms_Cx p m c cX3_sum 4 s args (Cond.code ⟨"CensusWalk$SetupReader", "sum", "(I)Z"⟩ prog_5_method_8_code 4 (some .boolean)) "CensusWalk$SetupReader" G cy A) (hr : meth.sig.returnType = (some .boolean)) (hlocks : meth.locks = false) (hE : ms_WT E) {d : Nat} {rec : ms_St → Nat → Int32 → (Int32 → ms_St → Prop) → Prop} (hrec : ∀ (u : ms_St) (o : Nat) (a1 : Int32) (post : Int32 → ms_St → Prop), ms_is E o 3 → rec u o a1 post → ms_MetI l ⟨"CensusWalk$SetupReader", "sum", "(I)Z"⟩ (Cond.code ⟨"CensusWalk$SetupReader", "sum", "(I)Z"⟩ prog_5_method_8_code 4 (some .boolean) :: lw_g) (ms_rm d 0) G cy L E [.ref (L o), .int a1] u post 0 0) {o : Nat} {a1 : Int32} {post : Int32 → ms_St → Prop}  (ho : ms_is E o 3)  : ∀ (n : Nat) (u : ms_St) (x2 : Int32), wp_X3_sum_12 E rec o a1 post n u x2 → ms_At p l e (ms_rm d 4) s m args below meth c 4 G cy A L 0 0 (ms_QI below args s G cy L E A post 0 0) E u 12 [(0, .ref (L o)), (1, .int a1), (2, .int x2)] [] := by
  intro n
  induction n with
  | zero =>
    intro u x2  h
    exact absurd h id
  | succ n ih =>
    intro u x2  h
    unfold wp_X3_sum_12 at h
    refine a_iload_n C dX3_sum_12 rfl 2 rfl rfl ?_
    refine a_sipush (v := 900) C dX3_sum_13 (by decide) rfl ?_
    refine a_icmp_ge (tgt := 94) C dX3_sum_16 (by decide) rfl (fun hc => ?_) (fun hc => ?_)
    · replace h := h.1 hc
      refine a_sub (lv' := []) [] rfl ?_
      exact c_X3_sum_94 C hr hlocks hE hrec ho  u  h
    · replace h := h.2 hc
      refine a_aload_n C dX3_sum_19 rfl 0 rfl rfl ?_
      refine g_3_3 C hE dX3_sum_20 ho kw_2_21 rfl ?_
      have k20 : ms_is E (ms_at E o 3) 6 := ms_wt hE ho rfl (by decide)
      refine a_bipush (v := 43) C dX3_sum_23 (by decide) rfl ?_
      refine a_callVI C (c_X6_isSign l G cy L E hE u (ms_at E o 3) 43 k20 _ h) k20 rfl (by decide) kw_4_62 kw_4_63 kw_4_64 kw_1_7 kw_4_65 rfl rfl pd_X6_isSign ⟨(by simp only [ms_rm]; omega), (by simp only [ms_rm]; omega)⟩ dX3_sum_25 rfl (Nat.le_of_ble_eq_true rfl) ⟨(Nat.le_of_ble_eq_true rfl), (Nat.le_of_ble_eq_true rfl)⟩ rfl (fun r25 u25 h => ?_)
      refine a_if_ne (tgt := 43) C dX3_sum_28 (by decide) rfl (fun hc => ?_) (fun hc => ?_)
      · replace h := h.2 hc
        exact c_X3_sum_43 C hr hlocks hE hrec ho ih u25 x2  h
      · replace h := h.1 hc
        refine a_aload_n C dX3_sum_31 rfl 0 rfl rfl ?_
        refine g_3_3 C hE dX3_sum_32 ho kw_2_21 rfl ?_
        refine a_bipush (v := 45) C dX3_sum_35 (by decide) rfl ?_
        refine a_callVI C (c_X6_isSign l G cy L E hE u25 (ms_at E o 3) 45 k20 _ h) k20 rfl (by decide) kw_4_62 kw_4_63 kw_4_64 kw_1_7 kw_4_65 rfl rfl pd_X6_isSign ⟨(by simp only [ms_rm]; omega), (by simp only [ms_rm]; omega)⟩ dX3_sum_37 rfl (Nat.le_of_ble_eq_true rfl) ⟨(Nat.le_of_ble_eq_true rfl), (Nat.le_of_ble_eq_true rfl)⟩ rfl (fun r37 u37 h => ?_)
        refine a_if_eq (tgt := 94) C dX3_sum_40 (by decide) rfl (fun hc => ?_) (fun hc => ?_)
        · replace h := h.1 hc
          refine a_sub (lv' := []) [] rfl ?_
          exact c_X3_sum_94 C hr hlocks hE hrec ho  u37  h
        · replace h := h.2 hc
          exact c_X3_sum_43 C hr hlocks hE hrec ho ih u37 x2  h
def wp_X3_sum (E : ms_En) (rec : ms_St → Nat → Int32 → (Int32 → ms_St → Prop) → Prop) (u : ms_St) (o : Nat) (a1 : Int32) (post : Int32 → ms_St → Prop) : Prop := wp_X3_term E rec u o a1 (fun r2 u2 => (r2 = 0 → post 0 u2) ∧ (¬ r2 = 0 → ∃ n12, wp_X3_sum_12 E rec o a1 post n12 u2 0))
set_option maxHeartbeats 4000000 in
set_option maxRecDepth 100000 in
theorem c_X3_sum (l : Launch) (G : va_G) (cy : Nat → ClassId) (L : Nat → Nat) (E : ms_En) (hE : ms_WT E) {d : Nat} (rec : ms_St → Nat → Int32 → (Int32 → ms_St → Prop) → Prop) (hrec : ∀ (u : ms_St) (o : Nat) (a1 : Int32) (post : Int32 → ms_St → Prop), ms_is E o 3 → rec u o a1 post → ms_MetI l ⟨"CensusWalk$SetupReader", "sum", "(I)Z"⟩ (Cond.code ⟨"CensusWalk$SetupReader", "sum", "(I)Z"⟩ prog_5_method_8_code 4 (some .boolean) :: lw_g) (ms_rm d 0) G cy L E [.ref (L o), .int a1] u post 0 0) (u : ms_St) (o : Nat) (a1 : Int32) (ho : ms_is E o 3) (post : Int32 → ms_St → Prop) (h : wp_X3_sum E rec u o a1 post) : ms_MetI l ⟨"CensusWalk$SetupReader", "sum", "(I)Z"⟩ (Cond.code ⟨"CensusWalk$SetupReader", "sum", "(I)Z"⟩ prog_5_method_8_code 4 (some .boolean) :: lw_g) (ms_rm d 4) G cy L E [.ref (L o), .int a1] u post 0 0 := by
  refine ms_enterI (lv := [(0, .ref (L o)), (1, .int a1)]) (by decide) (Nat.le_of_ble_eq_true rfl) rfl ?_
  intro p e s m args below meth c A C hr hlocks
  unfold wp_X3_sum at h
  refine a_aload_n C dX3_sum_0 rfl 0 rfl rfl ?_
  refine a_iload_n C dX3_sum_1 rfl 1 rfl rfl ?_
  refine a_callVI C (c_X3_term l G cy L E hE rec hrec u o a1 ho _ h) ho rfl (by decide) kw_4_102 kw_4_104 kp_22 kw_1_6 kw_4_105 rfl rfl pd_X3_term ⟨(by simp only [ms_rm]; omega), (by simp only [ms_rm]; omega)⟩ dX3_sum_2 rfl (Nat.le_of_ble_eq_true rfl) ⟨(Nat.le_of_ble_eq_true rfl), (Nat.le_of_ble_eq_true rfl)⟩ rfl (fun r2 u2 h => ?_)
  refine a_if_ne (tgt := 10) C dX3_sum_5 (by decide) rfl (fun hc => ?_) (fun hc => ?_)
  · replace h := h.2 hc
    refine a_iconst (v := 0) C dX3_sum_10 (by decide) rfl ?_
    refine a_istore_n (lv' := [(0, .ref (L o)), (1, .int a1), (2, .int 0)]) C dX3_sum_11 rfl (by decide) [1, 2, 0] rfl rfl ?_
    obtain ⟨n9, h⟩ := h
    exact c_X3_sum_12 C hr hlocks hE hrec ho  n9 u2 0  h
  · replace h := h.1 hc
    refine a_iconst (v := 0) C dX3_sum_8 (by decide) rfl ?_
    exact a_zret C dX3_sum_9 hr hlocks (Nat.le_of_ble_eq_true rfl) (Nat.le_of_ble_eq_true rfl) rfl h

def WP_X3_sum (E : ms_En) : Nat → ms_St → Nat → Int32 → (Int32 → ms_St → Prop) → Prop
  | 0 => fun _ _ _ _ => False
  | d + 1 => fun u o a1 post => wp_X3_sum E (WP_X3_sum E d) u o a1 post
theorem C_X3_sum (l : Launch) (G : va_G) (cy : Nat → ClassId) (L : Nat → Nat) (E : ms_En) (hE : ms_WT E) : ∀ (d : Nat) (u : ms_St) (o : Nat) (a1 : Int32) (post : Int32 → ms_St → Prop), ms_is E o 3 → WP_X3_sum E d u o a1 post → ms_MetI l ⟨"CensusWalk$SetupReader", "sum", "(I)Z"⟩ (Cond.code ⟨"CensusWalk$SetupReader", "sum", "(I)Z"⟩ prog_5_method_8_code 4 (some .boolean) :: lw_g) (ms_rm d 0) G cy L E [.ref (L o), .int a1] u post 0 0 := by
  intro d
  induction d with
  | zero =>
    intro u o a1 post ho h
    exact absurd h id
  | succ d ih =>
    intro u o a1 post ho h
    rw [ms_rm_succ]
    exact c_X3_sum l G cy L E hE (WP_X3_sum E d) ih u o a1 ho post h
