/-! CensusWalk$Tokens.isDigit(I)Z -/
theorem pd_X6_isDigit : (⟨"CensusWalk$Tokens", "isDigit", "(I)Z"⟩ : MethodName).cls ≠ "java/lang/invoke/MethodHandle" ∧ (⟨"CensusWalk$Tokens", "isDigit", "(I)Z"⟩ : MethodName).cls ≠ "java/lang/invoke/VarHandle" ∧ (parseMethodDescriptor (⟨"CensusWalk$Tokens", "isDigit", "(I)Z"⟩ : MethodName).desc).map (fun d => d.parameters.length) = some 1 := by decide +kernel
def wp_X6_isDigit_17 (E : ms_En) (a0 : Int32) (post : Int32 → ms_St → Prop)  (u : ms_St) (z0 : Int32) : Prop := (z0 = 0 ∨ z0 = 1) ∧ (post z0 u)
set_option maxHeartbeats 4000000 in
set_option maxRecDepth 100000 in
theorem c_X6_isDigit_17 {p : Program} {l : Launch} {e : Env} {s : State} {m : MethodId} {args : Array Value} {below : List Frame} {meth : Method} {c : Code} {G : va_G} {cy : Nat → ClassId} {A : Nat → Prop} {L : Nat → Nat} {E : ms_En} (C : ms_Cx p m c cX6_isDigit 1 s args (Cond.code ⟨"CensusWalk$Tokens", "isDigit", "(I)Z"⟩ prog_8_method_6_code 1 (some .boolean)) "CensusWalk$Tokens" G cy A) (hr : meth.sig.returnType = (some .boolean)) (hlocks : meth.locks = false) (hE : ms_WT E) {a0 : Int32} {post : Int32 → ms_St → Prop}    (u : ms_St) (z0 : Int32)  (h : wp_X6_isDigit_17 E a0 post u z0) : ms_At p l e ({ frames := 0, cells := 0, slots := 0, locals := 0 } : Room) s m args below meth c 1 G cy A L 0 0 (ms_QI below args s G cy L E A post 0 0) E u 17 [] [.int z0] := by
  unfold wp_X6_isDigit_17 at h
  obtain ⟨q17, h⟩ := h
  exact a_zret C dX6_isDigit_17 hr hlocks (Nat.le_of_ble_eq_true rfl) (Nat.le_of_ble_eq_true rfl) (ms_nz q17) h
def wp_X6_isDigit_16 (E : ms_En) (a0 : Int32) (post : Int32 → ms_St → Prop)  (u : ms_St)  : Prop := wp_X6_isDigit_17 E a0 post u 0
set_option maxHeartbeats 4000000 in
set_option maxRecDepth 100000 in
theorem c_X6_isDigit_16 {p : Program} {l : Launch} {e : Env} {s : State} {m : MethodId} {args : Array Value} {below : List Frame} {meth : Method} {c : Code} {G : va_G} {cy : Nat → ClassId} {A : Nat → Prop} {L : Nat → Nat} {E : ms_En} (C : ms_Cx p m c cX6_isDigit 1 s args (Cond.code ⟨"CensusWalk$Tokens", "isDigit", "(I)Z"⟩ prog_8_method_6_code 1 (some .boolean)) "CensusWalk$Tokens" G cy A) (hr : meth.sig.returnType = (some .boolean)) (hlocks : meth.locks = false) (hE : ms_WT E) {a0 : Int32} {post : Int32 → ms_St → Prop}    (u : ms_St)   (h : wp_X6_isDigit_16 E a0 post u ) : ms_At p l e ({ frames := 0, cells := 0, slots := 0, locals := 0 } : Room) s m args below meth c 1 G cy A L 0 0 (ms_QI below args s G cy L E A post 0 0) E u 16 [] [] := by
  unfold wp_X6_isDigit_16 at h
  refine a_iconst (v := 0) C dX6_isDigit_16 (by decide) rfl ?_
  exact c_X6_isDigit_17 C hr hlocks hE   u 0  h
def wp_X6_isDigit (E : ms_En) (u : ms_St) (a0 : Int32) (post : Int32 → ms_St → Prop) : Prop := (a0 < 48 → wp_X6_isDigit_16 E a0 post u) ∧ (¬ a0 < 48 → (57 < a0 → wp_X6_isDigit_16 E a0 post u) ∧ (¬ 57 < a0 → wp_X6_isDigit_17 E a0 post u 1))
set_option maxHeartbeats 4000000 in
set_option maxRecDepth 100000 in
theorem c_X6_isDigit (l : Launch) (G : va_G) (cy : Nat → ClassId) (L : Nat → Nat) (E : ms_En) (hE : ms_WT E) (u : ms_St) (a0 : Int32)  (post : Int32 → ms_St → Prop) (h : wp_X6_isDigit E u a0 post) : ms_MetI l ⟨"CensusWalk$Tokens", "isDigit", "(I)Z"⟩ (Cond.code ⟨"CensusWalk$Tokens", "isDigit", "(I)Z"⟩ prog_8_method_6_code 1 (some .boolean) :: lw_g) ({ frames := 0, cells := 0, slots := 0, locals := 0 } : Room) G cy L E [.int a0] u post 0 0 := by
  refine ms_enterI (lv := [(0, .int a0)]) (by decide) (Nat.le_of_ble_eq_true rfl) rfl ?_
  intro p e s m args below meth c A C hr hlocks
  unfold wp_X6_isDigit at h
  refine a_iload_n C dX6_isDigit_0 rfl 0 rfl rfl ?_
  refine a_bipush (v := 48) C dX6_isDigit_1 (by decide) rfl ?_
  refine a_icmp_lt (tgt := 16) C dX6_isDigit_3 (by decide) rfl (fun hc => ?_) (fun hc => ?_)
  · replace h := h.1 hc
    refine a_sub (lv' := []) [] rfl ?_
    exact c_X6_isDigit_16 C hr hlocks hE   u  h
  · replace h := h.2 hc
    refine a_iload_n C dX6_isDigit_6 rfl 0 rfl rfl ?_
    refine a_bipush (v := 57) C dX6_isDigit_7 (by decide) rfl ?_
    refine a_icmp_gt (tgt := 16) C dX6_isDigit_9 (by decide) rfl (fun hc => ?_) (fun hc => ?_)
    · replace h := h.1 hc
      refine a_sub (lv' := []) [] rfl ?_
      exact c_X6_isDigit_16 C hr hlocks hE   u  h
    · replace h := h.2 hc
      refine a_iconst (v := 1) C dX6_isDigit_12 (by decide) rfl ?_
      refine a_goto (tgt := 17) C dX6_isDigit_13 (by decide) ?_
      refine a_sub (lv' := []) [] rfl ?_
      exact c_X6_isDigit_17 C hr hlocks hE   u 1  h

/-! CensusWalk$Tokens.isLetter(I)Z -/
theorem pd_X6_isLetter : (⟨"CensusWalk$Tokens", "isLetter", "(I)Z"⟩ : MethodName).cls ≠ "java/lang/invoke/MethodHandle" ∧ (⟨"CensusWalk$Tokens", "isLetter", "(I)Z"⟩ : MethodName).cls ≠ "java/lang/invoke/VarHandle" ∧ (parseMethodDescriptor (⟨"CensusWalk$Tokens", "isLetter", "(I)Z"⟩ : MethodName).desc).map (fun d => d.parameters.length) = some 1 := by decide +kernel
def wp_X6_isLetter_17 (E : ms_En) (a0 : Int32) (post : Int32 → ms_St → Prop)  (u : ms_St) (z0 : Int32) : Prop := (z0 = 0 ∨ z0 = 1) ∧ (post z0 u)
set_option maxHeartbeats 4000000 in
set_option maxRecDepth 100000 in
theorem c_X6_isLetter_17 {p : Program} {l : Launch} {e : Env} {s : State} {m : MethodId} {args : Array Value} {below : List Frame} {meth : Method} {c : Code} {G : va_G} {cy : Nat → ClassId} {A : Nat → Prop} {L : Nat → Nat} {E : ms_En} (C : ms_Cx p m c cX6_isLetter 1 s args (Cond.code ⟨"CensusWalk$Tokens", "isLetter", "(I)Z"⟩ prog_8_method_7_code 1 (some .boolean)) "CensusWalk$Tokens" G cy A) (hr : meth.sig.returnType = (some .boolean)) (hlocks : meth.locks = false) (hE : ms_WT E) {a0 : Int32} {post : Int32 → ms_St → Prop}    (u : ms_St) (z0 : Int32)  (h : wp_X6_isLetter_17 E a0 post u z0) : ms_At p l e ({ frames := 0, cells := 0, slots := 0, locals := 0 } : Room) s m args below meth c 1 G cy A L 0 0 (ms_QI below args s G cy L E A post 0 0) E u 17 [] [.int z0] := by
  unfold wp_X6_isLetter_17 at h
  obtain ⟨q17, h⟩ := h
  exact a_zret C dX6_isLetter_17 hr hlocks (Nat.le_of_ble_eq_true rfl) (Nat.le_of_ble_eq_true rfl) (ms_nz q17) h
def wp_X6_isLetter_16 (E : ms_En) (a0 : Int32) (post : Int32 → ms_St → Prop)  (u : ms_St)  : Prop := wp_X6_isLetter_17 E a0 post u 0
set_option maxHeartbeats 4000000 in
set_option maxRecDepth 100000 in
theorem c_X6_isLetter_16 {p : Program} {l : Launch} {e : Env} {s : State} {m : MethodId} {args : Array Value} {below : List Frame} {meth : Method} {c : Code} {G : va_G} {cy : Nat → ClassId} {A : Nat → Prop} {L : Nat → Nat} {E : ms_En} (C : ms_Cx p m c cX6_isLetter 1 s args (Cond.code ⟨"CensusWalk$Tokens", "isLetter", "(I)Z"⟩ prog_8_method_7_code 1 (some .boolean)) "CensusWalk$Tokens" G cy A) (hr : meth.sig.returnType = (some .boolean)) (hlocks : meth.locks = false) (hE : ms_WT E) {a0 : Int32} {post : Int32 → ms_St → Prop}    (u : ms_St)   (h : wp_X6_isLetter_16 E a0 post u ) : ms_At p l e ({ frames := 0, cells := 0, slots := 0, locals := 0 } : Room) s m args below meth c 1 G cy A L 0 0 (ms_QI below args s G cy L E A post 0 0) E u 16 [] [] := by
  unfold wp_X6_isLetter_16 at h
  refine a_iconst (v := 0) C dX6_isLetter_16 (by decide) rfl ?_
  exact c_X6_isLetter_17 C hr hlocks hE   u 0  h
def wp_X6_isLetter (E : ms_En) (u : ms_St) (a0 : Int32) (post : Int32 → ms_St → Prop) : Prop := (a0 < 97 → wp_X6_isLetter_16 E a0 post u) ∧ (¬ a0 < 97 → (122 < a0 → wp_X6_isLetter_16 E a0 post u) ∧ (¬ 122 < a0 → wp_X6_isLetter_17 E a0 post u 1))
set_option maxHeartbeats 4000000 in
set_option maxRecDepth 100000 in
theorem c_X6_isLetter (l : Launch) (G : va_G) (cy : Nat → ClassId) (L : Nat → Nat) (E : ms_En) (hE : ms_WT E) (u : ms_St) (a0 : Int32)  (post : Int32 → ms_St → Prop) (h : wp_X6_isLetter E u a0 post) : ms_MetI l ⟨"CensusWalk$Tokens", "isLetter", "(I)Z"⟩ (Cond.code ⟨"CensusWalk$Tokens", "isLetter", "(I)Z"⟩ prog_8_method_7_code 1 (some .boolean) :: lw_g) ({ frames := 0, cells := 0, slots := 0, locals := 0 } : Room) G cy L E [.int a0] u post 0 0 := by
  refine ms_enterI (lv := [(0, .int a0)]) (by decide) (Nat.le_of_ble_eq_true rfl) rfl ?_
  intro p e s m args below meth c A C hr hlocks
  unfold wp_X6_isLetter at h
  refine a_iload_n C dX6_isLetter_0 rfl 0 rfl rfl ?_
  refine a_bipush (v := 97) C dX6_isLetter_1 (by decide) rfl ?_
  refine a_icmp_lt (tgt := 16) C dX6_isLetter_3 (by decide) rfl (fun hc => ?_) (fun hc => ?_)
  · replace h := h.1 hc
    refine a_sub (lv' := []) [] rfl ?_
    exact c_X6_isLetter_16 C hr hlocks hE   u  h
  · replace h := h.2 hc
    refine a_iload_n C dX6_isLetter_6 rfl 0 rfl rfl ?_
    refine a_bipush (v := 122) C dX6_isLetter_7 (by decide) rfl ?_
    refine a_icmp_gt (tgt := 16) C dX6_isLetter_9 (by decide) rfl (fun hc => ?_) (fun hc => ?_)
    · replace h := h.1 hc
      refine a_sub (lv' := []) [] rfl ?_
      exact c_X6_isLetter_16 C hr hlocks hE   u  h
    · replace h := h.2 hc
      refine a_iconst (v := 1) C dX6_isLetter_12 (by decide) rfl ?_
      refine a_goto (tgt := 17) C dX6_isLetter_13 (by decide) ?_
      refine a_sub (lv' := []) [] rfl ?_
      exact c_X6_isLetter_17 C hr hlocks hE   u 1  h

/-! CensusWalk$Tokens.advance()V -/
theorem pd_X6_advance : (⟨"CensusWalk$Tokens", "advance", "()V"⟩ : MethodName).cls = "CensusWalk$Tokens" ∧ (⟨"CensusWalk$Tokens", "advance", "()V"⟩ : MethodName).cls ≠ "java/lang/invoke/MethodHandle" ∧ (⟨"CensusWalk$Tokens", "advance", "()V"⟩ : MethodName).cls ≠ "java/lang/invoke/VarHandle" ∧ (parseMethodDescriptor (⟨"CensusWalk$Tokens", "advance", "()V"⟩ : MethodName).desc).map (fun d => d.parameters.length) = some 0 := by decide +kernel
def wp_X6_advance_256 (E : ms_En) (o : Nat) (post : ms_St → Prop)  (u : ms_St)  : Prop := post u
set_option maxHeartbeats 4000000 in
set_option maxRecDepth 100000 in
theorem c_X6_advance_256 {p : Program} {l : Launch} {e : Env} {s : State} {m : MethodId} {args : Array Value} {below : List Frame} {meth : Method} {c : Code} {G : va_G} {cy : Nat → ClassId} {A : Nat → Prop} {L : Nat → Nat} {E : ms_En} (C : ms_Cx p m c cX6_advance 1 s args (Cond.code ⟨"CensusWalk$Tokens", "advance", "()V"⟩ prog_8_method_3_code 1 none) "CensusWalk$Tokens" G cy A) (hr : meth.sig.returnType = none) (hlocks : meth.locks = false) (hE : ms_WT E) {o : Nat} {post : ms_St → Prop}  (ho : ms_is E o 6)  (u : ms_St)   (h : wp_X6_advance_256 E o post u ) : ms_At p l e ({ frames := 1, cells := 0, slots := 0, locals := 20 } : Room) s m args below meth c 1 G cy A L 0 0 (ms_QV below args s G cy L E A post 0 0) E u 256 [] [] := by
  unfold wp_X6_advance_256 at h
  exact a_vret C dX6_advance_256 hr hlocks (Nat.le_of_ble_eq_true rfl) (Nat.le_of_ble_eq_true rfl) h
def wp_X6_advance_189 (E : ms_En) (o : Nat) (post : ms_St → Prop)  : Nat → ms_St → Prop
  | 0 => fun _  => False
  | n + 1 => fun u  => ((ms_I u o 4) ≤ (ms_I u o 5) → wp_X6_advance_256 E o post u) ∧ (¬ (ms_I u o 4) ≤ (ms_I u o 5) → (ms_I u o 3 ≠ 0 ∧ ms_is E (Int32.toNatClampNeg (ms_I u o 3)) 12) ∧ (vp_in (ms_I u o 5) (ms_N E (Int32.toNatClampNeg (ms_I u o 3))) ∧ (wp_X6_isLetter E u (ms_I u (Int32.toNatClampNeg (ms_I u o 3)) (Int32.toNatClampNeg (ms_I u o 5))) (fun r209 u209 => (r209 = 0 → wp_X6_advance_256 E o post u209) ∧ (¬ r209 = 0 → wp_X6_advance_189 E o post n (ms_sI u209 o 5 ((ms_I u209 o 5) + 1)))))))
set_option maxHeartbeats 4000000 in
set_option maxRecDepth 100000 in
theorem c_X6_advance_189 {p : Program} {l : Launch} {e : Env} {s : State} {m : MethodId} {args : Array Value} {below : List Frame} {meth : Method} {c : Code} {G : va_G} {cy : Nat → ClassId} {A : Nat → Prop} {L : Nat → Nat} {E : ms_En} (C : ms_Cx p m c cX6_advance 1 s args (Cond.code ⟨"CensusWalk$Tokens", "advance", "()V"⟩ prog_8_method_3_code 1 none) "CensusWalk$Tokens" G cy A) (hr : meth.sig.returnType = none) (hlocks : meth.locks = false) (hE : ms_WT E) {o : Nat} {post : ms_St → Prop}  (ho : ms_is E o 6)  : ∀ (n : Nat) (u : ms_St) , wp_X6_advance_189 E o post n u  → ms_At p l e ({ frames := 1, cells := 0, slots := 0, locals := 20 } : Room) s m args below meth c 1 G cy A L 0 0 (ms_QV below args s G cy L E A post 0 0) E u 189 [(0, .ref (L o))] [] := by
  intro n
  induction n with
  | zero =>
    intro u   h
    exact absurd h id
  | succ n ih =>
    intro u   h
    unfold wp_X6_advance_189 at h
    refine a_aload_n C dX6_advance_189 rfl 0 rfl rfl ?_
    refine g_6_5 C dX6_advance_190 ho kw_1_226 rfl ?_
    refine a_aload_n C dX6_advance_193 rfl 0 rfl rfl ?_
    refine g_6_4 C dX6_advance_194 ho kw_1_225 rfl ?_
    refine a_icmp_ge (tgt := 256) C dX6_advance_197 (by decide) rfl (fun hc => ?_) (fun hc => ?_)
    · replace h := h.1 hc
      refine a_sub (lv' := []) [] rfl ?_
      exact c_X6_advance_256 C hr hlocks hE ho  u  h
    · replace h := h.2 hc
      refine a_aload_n C dX6_advance_200 rfl 0 rfl rfl ?_
      obtain ⟨⟨z201, k201⟩, h⟩ := h
      refine g_6_3 C dX6_advance_201 ho kw_1_224 rfl z201 ?_
      refine a_aload_n C dX6_advance_204 rfl 0 rfl rfl ?_
      refine g_6_5 C dX6_advance_205 ho kw_1_226 rfl ?_
      obtain ⟨q208, h⟩ := h
      refine a_bald C dX6_advance_208 k201 rfl q208 rfl ?_
      refine a_callSI C (c_X6_isLetter l G cy L E hE u (ms_I u (Int32.toNatClampNeg (ms_I u o 3)) (Int32.toNatClampNeg (ms_I u o 5)))  _ h) kw_3_229 kw_3_230 kw_1_7 kw_3_231 rfl rfl pd_X6_isLetter ⟨(Nat.le_of_ble_eq_true rfl), (Nat.le_of_ble_eq_true rfl)⟩ dX6_advance_209 rfl (Nat.le_of_ble_eq_true rfl) ⟨(Nat.le_of_ble_eq_true rfl), (Nat.le_of_ble_eq_true rfl)⟩ rfl (fun r209 u209 h => ?_)
      refine a_if_eq (tgt := 256) C dX6_advance_212 (by decide) rfl (fun hc => ?_) (fun hc => ?_)
      · replace h := h.1 hc
        refine a_sub (lv' := []) [] rfl ?_
        exact c_X6_advance_256 C hr hlocks hE ho  u209  h
      · replace h := h.2 hc
        refine a_aload_n C dX6_advance_215 rfl 0 rfl rfl ?_
        refine a_dup C dX6_advance_216 rfl rfl ?_
        refine g_6_5 C dX6_advance_217 ho kw_1_226 rfl ?_
        refine a_iconst (v := 1) C dX6_advance_220 (by decide) rfl ?_
        refine a_iadd C dX6_advance_221 rfl ?_
        refine s_6_5 C dX6_advance_222 ho kw_1_226 rfl ?_
        refine a_goto (tgt := 189) C dX6_advance_225 (by decide) ?_
        exact ih (ms_sI u209 o 5 ((ms_I u209 o 5) + 1))  h
def wp_X6_advance_153 (E : ms_En) (o : Nat) (post : ms_St → Prop) (k90 : ms_St → Prop) (u : ms_St) (z0 : Int32) (z1 : Nat) : Prop := k90 (ms_sI (ms_sI u z1 2 z0) o 5 ((ms_I (ms_sI u z1 2 z0) o 5) + 1))
set_option maxHeartbeats 4000000 in
set_option maxRecDepth 100000 in
theorem c_X6_advance_153 {p : Program} {l : Launch} {e : Env} {s : State} {m : MethodId} {args : Array Value} {below : List Frame} {meth : Method} {c : Code} {G : va_G} {cy : Nat → ClassId} {A : Nat → Prop} {L : Nat → Nat} {E : ms_En} (C : ms_Cx p m c cX6_advance 1 s args (Cond.code ⟨"CensusWalk$Tokens", "advance", "()V"⟩ prog_8_method_3_code 1 none) "CensusWalk$Tokens" G cy A) (hr : meth.sig.returnType = none) (hlocks : meth.locks = false) (hE : ms_WT E) {o : Nat} {post : ms_St → Prop} {k90 : ms_St → Prop} (ho : ms_is E o 6) (hk90 : ∀ (u : ms_St) , k90 u  → ms_At p l e ({ frames := 1, cells := 0, slots := 0, locals := 20 } : Room) s m args below meth c 1 G cy A L 0 0 (ms_QV below args s G cy L E A post 0 0) E u 90 [(0, .ref (L o))] []) (u : ms_St) (z0 : Int32) (z1 : Nat) (k_z1 : ms_is E z1 6) (h : wp_X6_advance_153 E o post k90 u z0 z1) : ms_At p l e ({ frames := 1, cells := 0, slots := 0, locals := 20 } : Room) s m args below meth c 1 G cy A L 0 0 (ms_QV below args s G cy L E A post 0 0) E u 153 [(0, .ref (L o))] [.int z0, .ref (L z1)] := by
  unfold wp_X6_advance_153 at h
  refine s_6_2 C dX6_advance_153 k_z1 kw_1_222 rfl ?_
  refine a_aload_n C dX6_advance_156 rfl 0 rfl rfl ?_
  refine a_dup C dX6_advance_157 rfl rfl ?_
  refine g_6_5 C dX6_advance_158 ho kw_1_226 rfl ?_
  refine a_iconst (v := 1) C dX6_advance_161 (by decide) rfl ?_
  refine a_iadd C dX6_advance_162 rfl ?_
  refine s_6_5 C dX6_advance_163 ho kw_1_226 rfl ?_
  refine a_goto (tgt := 90) C dX6_advance_166 (by decide) ?_
  exact hk90 (ms_sI (ms_sI u z1 2 z0) o 5 ((ms_I (ms_sI u z1 2 z0) o 5) + 1))  h
def wp_X6_advance_90 (E : ms_En) (o : Nat) (post : ms_St → Prop)  : Nat → ms_St → Prop
  | 0 => fun _  => False
  | n + 1 => fun u  => ((ms_I u o 4) ≤ (ms_I u o 5) → wp_X6_advance_256 E o post u) ∧ (¬ (ms_I u o 4) ≤ (ms_I u o 5) → (ms_I u o 3 ≠ 0 ∧ ms_is E (Int32.toNatClampNeg (ms_I u o 3)) 12) ∧ (vp_in (ms_I u o 5) (ms_N E (Int32.toNatClampNeg (ms_I u o 3))) ∧ (wp_X6_isDigit E u (ms_I u (Int32.toNatClampNeg (ms_I u o 3)) (Int32.toNatClampNeg (ms_I u o 5))) (fun r110 u110 => (r110 = 0 → wp_X6_advance_256 E o post u110) ∧ (¬ r110 = 0 → (100000 ≤ (ms_I u110 o 2) → wp_X6_advance_153 E o post (wp_X6_advance_90 E o post n) u110 (ms_I u110 o 2) o) ∧ (¬ 100000 ≤ (ms_I u110 o 2) → (ms_I u110 o 3 ≠ 0 ∧ ms_is E (Int32.toNatClampNeg (ms_I u110 o 3)) 12) ∧ (vp_in (ms_I u110 o 5) (ms_N E (Int32.toNatClampNeg (ms_I u110 o 3))) ∧ (wp_X6_advance_153 E o post (wp_X6_advance_90 E o post n) u110 (((10 * (ms_I u110 o 2)) + (ms_I u110 (Int32.toNatClampNeg (ms_I u110 o 3)) (Int32.toNatClampNeg (ms_I u110 o 5)))) - 48) o))))))))
set_option maxHeartbeats 4000000 in
set_option maxRecDepth 100000 in
theorem c_X6_advance_90 {p : Program} {l : Launch} {e : Env} {s : State} {m : MethodId} {args : Array Value} {below : List Frame} {meth : Method} {c : Code} {G : va_G} {cy : Nat → ClassId} {A : Nat → Prop} {L : Nat → Nat} {E : ms_En} (C : ms_Cx p m c cX6_advance 1 s args (Cond.code ⟨"CensusWalk$Tokens", "advance", "()V"⟩ prog_8_method_3_code 1 none) "CensusWalk$Tokens" G cy A) (hr : meth.sig.returnType = none) (hlocks : meth.locks = false) (hE : ms_WT E) {o : Nat} {post : ms_St → Prop}  (ho : ms_is E o 6)  : ∀ (n : Nat) (u : ms_St) , wp_X6_advance_90 E o post n u  → ms_At p l e ({ frames := 1, cells := 0, slots := 0, locals := 20 } : Room) s m args below meth c 1 G cy A L 0 0 (ms_QV below args s G cy L E A post 0 0) E u 90 [(0, .ref (L o))] [] := by
  intro n
  induction n with
  | zero =>
    intro u   h
    exact absurd h id
  | succ n ih =>
    intro u   h
    unfold wp_X6_advance_90 at h
    refine a_aload_n C dX6_advance_90 rfl 0 rfl rfl ?_
    refine g_6_5 C dX6_advance_91 ho kw_1_226 rfl ?_
    refine a_aload_n C dX6_advance_94 rfl 0 rfl rfl ?_
    refine g_6_4 C dX6_advance_95 ho kw_1_225 rfl ?_
    refine a_icmp_ge (tgt := 256) C dX6_advance_98 (by decide) rfl (fun hc => ?_) (fun hc => ?_)
    · replace h := h.1 hc
      refine a_sub (lv' := []) [] rfl ?_
      exact c_X6_advance_256 C hr hlocks hE ho  u  h
    · replace h := h.2 hc
      refine a_aload_n C dX6_advance_101 rfl 0 rfl rfl ?_
      obtain ⟨⟨z102, k102⟩, h⟩ := h
      refine g_6_3 C dX6_advance_102 ho kw_1_224 rfl z102 ?_
      refine a_aload_n C dX6_advance_105 rfl 0 rfl rfl ?_
      refine g_6_5 C dX6_advance_106 ho kw_1_226 rfl ?_
      obtain ⟨q109, h⟩ := h
      refine a_bald C dX6_advance_109 k102 rfl q109 rfl ?_
      refine a_callSI C (c_X6_isDigit l G cy L E hE u (ms_I u (Int32.toNatClampNeg (ms_I u o 3)) (Int32.toNatClampNeg (ms_I u o 5)))  _ h) kw_3_225 kw_3_226 kw_1_7 kw_3_227 rfl rfl pd_X6_isDigit ⟨(Nat.le_of_ble_eq_true rfl), (Nat.le_of_ble_eq_true rfl)⟩ dX6_advance_110 rfl (Nat.le_of_ble_eq_true rfl) ⟨(Nat.le_of_ble_eq_true rfl), (Nat.le_of_ble_eq_true rfl)⟩ rfl (fun r110 u110 h => ?_)
      refine a_if_eq (tgt := 256) C dX6_advance_113 (by decide) rfl (fun hc => ?_) (fun hc => ?_)
      · replace h := h.1 hc
        refine a_sub (lv' := []) [] rfl ?_
        exact c_X6_advance_256 C hr hlocks hE ho  u110  h
      · replace h := h.2 hc
        refine a_aload_n C dX6_advance_116 rfl 0 rfl rfl ?_
        refine a_aload_n C dX6_advance_117 rfl 0 rfl rfl ?_
        refine g_6_2 C dX6_advance_118 ho kw_1_222 rfl ?_
        refine a_ldc (v := 100000) C dX6_advance_121 kw_3_228 rfl ?_
        refine a_icmp_ge (tgt := 149) C dX6_advance_123 (by decide) rfl (fun hc => ?_) (fun hc => ?_)
        · replace h := h.1 hc
          refine a_aload_n C dX6_advance_149 rfl 0 rfl rfl ?_
          refine g_6_2 C dX6_advance_150 ho kw_1_222 rfl ?_
          exact c_X6_advance_153 C hr hlocks hE ho ih u110 (ms_I u110 o 2) o ho h
        · replace h := h.2 hc
          refine a_bipush (v := 10) C dX6_advance_126 (by decide) rfl ?_
          refine a_aload_n C dX6_advance_128 rfl 0 rfl rfl ?_
          refine g_6_2 C dX6_advance_129 ho kw_1_222 rfl ?_
          refine a_imul C dX6_advance_132 rfl ?_
          refine a_aload_n C dX6_advance_133 rfl 0 rfl rfl ?_
          obtain ⟨⟨z134, k134⟩, h⟩ := h
          refine g_6_3 C dX6_advance_134 ho kw_1_224 rfl z134 ?_
          refine a_aload_n C dX6_advance_137 rfl 0 rfl rfl ?_
          refine g_6_5 C dX6_advance_138 ho kw_1_226 rfl ?_
          obtain ⟨q141, h⟩ := h
          refine a_bald C dX6_advance_141 k134 rfl q141 rfl ?_
          refine a_iadd C dX6_advance_142 rfl ?_
          refine a_bipush (v := 48) C dX6_advance_143 (by decide) rfl ?_
          refine a_isub C dX6_advance_145 rfl ?_
          refine a_goto (tgt := 153) C dX6_advance_146 (by decide) ?_
          exact c_X6_advance_153 C hr hlocks hE ho ih u110 (((10 * (ms_I u110 o 2)) + (ms_I u110 (Int32.toNatClampNeg (ms_I u110 o 3)) (Int32.toNatClampNeg (ms_I u110 o 5)))) - 48) o ho h
def wp_X6_advance_38 (E : ms_En) (o : Nat) (post : ms_St → Prop)  (u : ms_St)  : Prop := ((ms_I (ms_sI (ms_sI u o 1 (ms_I u o 5)) o 2 0) o 5) < (ms_I (ms_sI (ms_sI u o 1 (ms_I u o 5)) o 2 0) o 4) → (ms_I (ms_sI (ms_sI u o 1 (ms_I u o 5)) o 2 0) o 3 ≠ 0 ∧ ms_is E (Int32.toNatClampNeg (ms_I (ms_sI (ms_sI u o 1 (ms_I u o 5)) o 2 0) o 3)) 12) ∧ (vp_in (ms_I (ms_sI (ms_sI u o 1 (ms_I u o 5)) o 2 0) o 5) (ms_N E (Int32.toNatClampNeg (ms_I (ms_sI (ms_sI u o 1 (ms_I u o 5)) o 2 0) o 3))) ∧ (wp_X6_isDigit E (ms_sI (ms_sI u o 1 (ms_I u o 5)) o 2 0) (ms_I (ms_sI (ms_sI u o 1 (ms_I u o 5)) o 2 0) (Int32.toNatClampNeg (ms_I (ms_sI (ms_sI u o 1 (ms_I u o 5)) o 2 0) o 3)) (Int32.toNatClampNeg (ms_I (ms_sI (ms_sI u o 1 (ms_I u o 5)) o 2 0) o 5))) (fun r79 u79 => (r79 = 0 → (ms_I u79 o 3 ≠ 0 ∧ ms_is E (Int32.toNatClampNeg (ms_I u79 o 3)) 12) ∧ (vp_in (ms_I u79 o 5) (ms_N E (Int32.toNatClampNeg (ms_I u79 o 3))) ∧ (wp_X6_isLetter E u79 (ms_I u79 (Int32.toNatClampNeg (ms_I u79 o 3)) (Int32.toNatClampNeg (ms_I u79 o 5))) (fun r178 u178 => (r178 = 0 → (ms_I (ms_sI u178 o 0 3) o 3 ≠ 0 ∧ ms_is E (Int32.toNatClampNeg (ms_I (ms_sI u178 o 0 3) o 3)) 12) ∧ (vp_in (ms_I (ms_sI u178 o 0 3) o 5) (ms_N E (Int32.toNatClampNeg (ms_I (ms_sI u178 o 0 3) o 3))) ∧ (∀ w243 : ms_St, w243 = (ms_sI (ms_sI u178 o 0 3) o 2 (ms_I (ms_sI u178 o 0 3) (Int32.toNatClampNeg (ms_I (ms_sI u178 o 0 3) o 3)) (Int32.toNatClampNeg (ms_I (ms_sI u178 o 0 3) o 5)))) → (wp_X6_advance_256 E o post (ms_sI w243 o 5 ((ms_I w243 o 5) + 1)))))) ∧ (¬ r178 = 0 → ∃ n189, wp_X6_advance_189 E o post n189 (ms_sI u178 o 0 2)))))) ∧ (¬ r79 = 0 → ∃ n90, wp_X6_advance_90 E o post n90 (ms_sI u79 o 0 1)))))) ∧ (¬ (ms_I (ms_sI (ms_sI u o 1 (ms_I u o 5)) o 2 0) o 5) < (ms_I (ms_sI (ms_sI u o 1 (ms_I u o 5)) o 2 0) o 4) → wp_X6_advance_256 E o post (ms_sI (ms_sI (ms_sI u o 1 (ms_I u o 5)) o 2 0) o 0 0))
set_option maxHeartbeats 4000000 in
set_option maxRecDepth 100000 in
theorem c_X6_advance_38 {p : Program} {l : Launch} {e : Env} {s : State} {m : MethodId} {args : Array Value} {below : List Frame} {meth : Method} {c : Code} {G : va_G} {cy : Nat → ClassId} {A : Nat → Prop} {L : Nat → Nat} {E : ms_En} (C : ms_Cx p m c cX6_advance 1 s args (Cond.code ⟨"CensusWalk$Tokens", "advance", "()V"⟩ prog_8_method_3_code 1 none) "CensusWalk$Tokens" G cy A) (hr : meth.sig.returnType = none) (hlocks : meth.locks = false) (hE : ms_WT E) {o : Nat} {post : ms_St → Prop}  (ho : ms_is E o 6)  (u : ms_St)   (h : wp_X6_advance_38 E o post u ) : ms_At p l e ({ frames := 1, cells := 0, slots := 0, locals := 20 } : Room) s m args below meth c 1 G cy A L 0 0 (ms_QV below args s G cy L E A post 0 0) E u 38 [(0, .ref (L o))] [] := by
  unfold wp_X6_advance_38 at h
  refine a_aload_n C dX6_advance_38 rfl 0 rfl rfl ?_
  refine a_aload_n C dX6_advance_39 rfl 0 rfl rfl ?_
  refine g_6_5 C dX6_advance_40 ho kw_1_226 rfl ?_
  refine s_6_1 C dX6_advance_43 ho kw_1_220 rfl ?_
  refine a_aload_n C dX6_advance_46 rfl 0 rfl rfl ?_
  refine a_iconst (v := 0) C dX6_advance_47 (by decide) rfl ?_
  refine s_6_2 C dX6_advance_48 ho kw_1_222 rfl ?_
  refine a_aload_n C dX6_advance_51 rfl 0 rfl rfl ?_
  refine g_6_5 C dX6_advance_52 ho kw_1_226 rfl ?_
  refine a_aload_n C dX6_advance_55 rfl 0 rfl rfl ?_
  refine g_6_4 C dX6_advance_56 ho kw_1_225 rfl ?_
  refine a_icmp_lt (tgt := 70) C dX6_advance_59 (by decide) rfl (fun hc => ?_) (fun hc => ?_)
  · replace h := h.1 hc
    refine a_aload_n C dX6_advance_70 rfl 0 rfl rfl ?_
    obtain ⟨⟨z71, k71⟩, h⟩ := h
    refine g_6_3 C dX6_advance_71 ho kw_1_224 rfl z71 ?_
    refine a_aload_n C dX6_advance_74 rfl 0 rfl rfl ?_
    refine g_6_5 C dX6_advance_75 ho kw_1_226 rfl ?_
    obtain ⟨q78, h⟩ := h
    refine a_bald C dX6_advance_78 k71 rfl q78 rfl ?_
    refine a_callSI C (c_X6_isDigit l G cy L E hE (ms_sI (ms_sI u o 1 (ms_I u o 5)) o 2 0) (ms_I (ms_sI (ms_sI u o 1 (ms_I u o 5)) o 2 0) (Int32.toNatClampNeg (ms_I (ms_sI (ms_sI u o 1 (ms_I u o 5)) o 2 0) o 3)) (Int32.toNatClampNeg (ms_I (ms_sI (ms_sI u o 1 (ms_I u o 5)) o 2 0) o 5)))  _ h) kw_3_225 kw_3_226 kw_1_7 kw_3_227 rfl rfl pd_X6_isDigit ⟨(Nat.le_of_ble_eq_true rfl), (Nat.le_of_ble_eq_true rfl)⟩ dX6_advance_79 rfl (Nat.le_of_ble_eq_true rfl) ⟨(Nat.le_of_ble_eq_true rfl), (Nat.le_of_ble_eq_true rfl)⟩ rfl (fun r79 u79 h => ?_)
    refine a_if_eq (tgt := 169) C dX6_advance_82 (by decide) rfl (fun hc => ?_) (fun hc => ?_)
    · replace h := h.1 hc
      refine a_aload_n C dX6_advance_169 rfl 0 rfl rfl ?_
      obtain ⟨⟨z170, k170⟩, h⟩ := h
      refine g_6_3 C dX6_advance_170 ho kw_1_224 rfl z170 ?_
      refine a_aload_n C dX6_advance_173 rfl 0 rfl rfl ?_
      refine g_6_5 C dX6_advance_174 ho kw_1_226 rfl ?_
      obtain ⟨q177, h⟩ := h
      refine a_bald C dX6_advance_177 k170 rfl q177 rfl ?_
      refine a_callSI C (c_X6_isLetter l G cy L E hE u79 (ms_I u79 (Int32.toNatClampNeg (ms_I u79 o 3)) (Int32.toNatClampNeg (ms_I u79 o 5)))  _ h) kw_3_229 kw_3_230 kw_1_7 kw_3_231 rfl rfl pd_X6_isLetter ⟨(Nat.le_of_ble_eq_true rfl), (Nat.le_of_ble_eq_true rfl)⟩ dX6_advance_178 rfl (Nat.le_of_ble_eq_true rfl) ⟨(Nat.le_of_ble_eq_true rfl), (Nat.le_of_ble_eq_true rfl)⟩ rfl (fun r178 u178 h => ?_)
      refine a_if_eq (tgt := 228) C dX6_advance_181 (by decide) rfl (fun hc => ?_) (fun hc => ?_)
      · replace h := h.1 hc
        refine a_aload_n C dX6_advance_228 rfl 0 rfl rfl ?_
        refine a_iconst (v := 3) C dX6_advance_229 (by decide) rfl ?_
        refine s_6_0 C dX6_advance_230 ho kw_1_218 rfl ?_
        refine a_aload_n C dX6_advance_233 rfl 0 rfl rfl ?_
        refine a_aload_n C dX6_advance_234 rfl 0 rfl rfl ?_
        obtain ⟨⟨z235, k235⟩, h⟩ := h
        refine g_6_3 C dX6_advance_235 ho kw_1_224 rfl z235 ?_
        refine a_aload_n C dX6_advance_238 rfl 0 rfl rfl ?_
        refine g_6_5 C dX6_advance_239 ho kw_1_226 rfl ?_
        obtain ⟨q242, h⟩ := h
        refine a_bald C dX6_advance_242 k235 rfl q242 rfl ?_
        refine s_6_2 C dX6_advance_243 ho kw_1_222 rfl ?_
        refine a_nmU (fun w243 e243 => ?_)
        replace h := h w243 e243
        refine a_aload_n C dX6_advance_246 rfl 0 rfl rfl ?_
        refine a_dup C dX6_advance_247 rfl rfl ?_
        refine g_6_5 C dX6_advance_248 ho kw_1_226 rfl ?_
        refine a_iconst (v := 1) C dX6_advance_251 (by decide) rfl ?_
        refine a_iadd C dX6_advance_252 rfl ?_
        refine s_6_5 C dX6_advance_253 ho kw_1_226 rfl ?_
        refine a_sub (lv' := []) [] rfl ?_
        exact c_X6_advance_256 C hr hlocks hE ho  (ms_sI w243 o 5 ((ms_I w243 o 5) + 1))  h
      · replace h := h.2 hc
        refine a_aload_n C dX6_advance_184 rfl 0 rfl rfl ?_
        refine a_iconst (v := 2) C dX6_advance_185 (by decide) rfl ?_
        refine s_6_0 C dX6_advance_186 ho kw_1_218 rfl ?_
        obtain ⟨n9, h⟩ := h
        exact c_X6_advance_189 C hr hlocks hE ho  n9 (ms_sI u178 o 0 2)  h
    · replace h := h.2 hc
      refine a_aload_n C dX6_advance_85 rfl 0 rfl rfl ?_
      refine a_iconst (v := 1) C dX6_advance_86 (by decide) rfl ?_
      refine s_6_0 C dX6_advance_87 ho kw_1_218 rfl ?_
      obtain ⟨n9, h⟩ := h
      exact c_X6_advance_90 C hr hlocks hE ho  n9 (ms_sI u79 o 0 1)  h
  · replace h := h.2 hc
    refine a_aload_n C dX6_advance_62 rfl 0 rfl rfl ?_
    refine a_iconst (v := 0) C dX6_advance_63 (by decide) rfl ?_
    refine s_6_0 C dX6_advance_64 ho kw_1_218 rfl ?_
    refine a_goto (tgt := 256) C dX6_advance_67 (by decide) ?_
    refine a_sub (lv' := []) [] rfl ?_
    exact c_X6_advance_256 C hr hlocks hE ho  (ms_sI (ms_sI (ms_sI u o 1 (ms_I u o 5)) o 2 0) o 0 0)  h
def wp_X6_advance_0 (E : ms_En) (o : Nat) (post : ms_St → Prop)  : Nat → ms_St → Prop
  | 0 => fun _  => False
  | n + 1 => fun u  => ((ms_I u o 4) ≤ (ms_I u o 5) → wp_X6_advance_38 E o post u) ∧ (¬ (ms_I u o 4) ≤ (ms_I u o 5) → (ms_I u o 3 ≠ 0 ∧ ms_is E (Int32.toNatClampNeg (ms_I u o 3)) 12) ∧ (vp_in (ms_I u o 5) (ms_N E (Int32.toNatClampNeg (ms_I u o 3))) ∧ (((ms_I u (Int32.toNatClampNeg (ms_I u o 3)) (Int32.toNatClampNeg (ms_I u o 5))) = 32 → wp_X6_advance_0 E o post n (ms_sI u o 5 ((ms_I u o 5) + 1))) ∧ (¬ (ms_I u (Int32.toNatClampNeg (ms_I u o 3)) (Int32.toNatClampNeg (ms_I u o 5))) = 32 → wp_X6_advance_38 E o post u))))
set_option maxHeartbeats 4000000 in
set_option maxRecDepth 100000 in
theorem c_X6_advance_0 {p : Program} {l : Launch} {e : Env} {s : State} {m : MethodId} {args : Array Value} {below : List Frame} {meth : Method} {c : Code} {G : va_G} {cy : Nat → ClassId} {A : Nat → Prop} {L : Nat → Nat} {E : ms_En} (C : ms_Cx p m c cX6_advance 1 s args (Cond.code ⟨"CensusWalk$Tokens", "advance", "()V"⟩ prog_8_method_3_code 1 none) "CensusWalk$Tokens" G cy A) (hr : meth.sig.returnType = none) (hlocks : meth.locks = false) (hE : ms_WT E) {o : Nat} {post : ms_St → Prop}  (ho : ms_is E o 6)  : ∀ (n : Nat) (u : ms_St) , wp_X6_advance_0 E o post n u  → ms_At p l e ({ frames := 1, cells := 0, slots := 0, locals := 20 } : Room) s m args below meth c 1 G cy A L 0 0 (ms_QV below args s G cy L E A post 0 0) E u 0 [(0, .ref (L o))] [] := by
  intro n
  induction n with
  | zero =>
    intro u   h
    exact absurd h id
  | succ n ih =>
    intro u   h
    unfold wp_X6_advance_0 at h
    refine a_aload_n C dX6_advance_0 rfl 0 rfl rfl ?_
    refine g_6_5 C dX6_advance_1 ho kw_1_226 rfl ?_
    refine a_aload_n C dX6_advance_4 rfl 0 rfl rfl ?_
    refine g_6_4 C dX6_advance_5 ho kw_1_225 rfl ?_
    refine a_icmp_ge (tgt := 38) C dX6_advance_8 (by decide) rfl (fun hc => ?_) (fun hc => ?_)
    · replace h := h.1 hc
      exact c_X6_advance_38 C hr hlocks hE ho  u  h
    · replace h := h.2 hc
      refine a_aload_n C dX6_advance_11 rfl 0 rfl rfl ?_
      obtain ⟨⟨z12, k12⟩, h⟩ := h
      refine g_6_3 C dX6_advance_12 ho kw_1_224 rfl z12 ?_
      refine a_aload_n C dX6_advance_15 rfl 0 rfl rfl ?_
      refine g_6_5 C dX6_advance_16 ho kw_1_226 rfl ?_
      obtain ⟨q19, h⟩ := h
      refine a_bald C dX6_advance_19 k12 rfl q19 rfl ?_
      refine a_bipush (v := 32) C dX6_advance_20 (by decide) rfl ?_
      refine a_icmp_ne (tgt := 38) C dX6_advance_22 (by decide) rfl (fun hc => ?_) (fun hc => ?_)
      · replace h := h.2 hc
        exact c_X6_advance_38 C hr hlocks hE ho  u  h
      · replace h := h.1 hc
        refine a_aload_n C dX6_advance_25 rfl 0 rfl rfl ?_
        refine a_dup C dX6_advance_26 rfl rfl ?_
        refine g_6_5 C dX6_advance_27 ho kw_1_226 rfl ?_
        refine a_iconst (v := 1) C dX6_advance_30 (by decide) rfl ?_
        refine a_iadd C dX6_advance_31 rfl ?_
        refine s_6_5 C dX6_advance_32 ho kw_1_226 rfl ?_
        refine a_goto (tgt := 0) C dX6_advance_35 (by decide) ?_
        exact ih (ms_sI u o 5 ((ms_I u o 5) + 1))  h
def wp_X6_advance (E : ms_En) (u : ms_St) (o : Nat) (post : ms_St → Prop) : Prop := ∃ n0, wp_X6_advance_0 E o post n0 u
set_option maxHeartbeats 4000000 in
set_option maxRecDepth 100000 in
theorem c_X6_advance (l : Launch) (G : va_G) (cy : Nat → ClassId) (L : Nat → Nat) (E : ms_En) (hE : ms_WT E) (u : ms_St) (o : Nat) (ho : ms_is E o 6) (post : ms_St → Prop) (h : wp_X6_advance E u o post) : ms_MetV l ⟨"CensusWalk$Tokens", "advance", "()V"⟩ (Cond.code ⟨"CensusWalk$Tokens", "advance", "()V"⟩ prog_8_method_3_code 1 none :: lw_g) ({ frames := 1, cells := 0, slots := 0, locals := 20 } : Room) G cy L E [.ref (L o)] u post 0 0 := by
  refine ms_enterV (lv := [(0, .ref (L o))]) (by decide) (Nat.le_of_ble_eq_true rfl) rfl ?_
  intro p e s m args below meth c A C hr hlocks
  unfold wp_X6_advance at h
  obtain ⟨n9, h⟩ := h
  exact c_X6_advance_0 C hr hlocks hE ho  n9 u  h

/-! CensusWalk$Tokens.begin([BI)V -/
theorem pd_X6_begin : (⟨"CensusWalk$Tokens", "begin", "([BI)V"⟩ : MethodName).cls = "CensusWalk$Tokens" ∧ (⟨"CensusWalk$Tokens", "begin", "([BI)V"⟩ : MethodName).cls ≠ "java/lang/invoke/MethodHandle" ∧ (⟨"CensusWalk$Tokens", "begin", "([BI)V"⟩ : MethodName).cls ≠ "java/lang/invoke/VarHandle" ∧ (parseMethodDescriptor (⟨"CensusWalk$Tokens", "begin", "([BI)V"⟩ : MethodName).desc).map (fun d => d.parameters.length) = some 2 := by decide +kernel
def wp_X6_begin (E : ms_En) (u : ms_St) (o : Nat) (a1 : Nat) (a2 : Int32) (post : ms_St → Prop) : Prop := (a1 < 2 ^ 31 ∧ 0 < a1) ∧ (∀ w17 : ms_St, w17 = (ms_sI (ms_sI (ms_sI u o 3 (nI a1)) o 4 (if (nI (ms_N E a1)) < a2 then (nI (ms_N E a1)) else a2)) o 5 0) → (wp_X6_advance E w17 o (fun u21 => post u21)))
set_option maxHeartbeats 4000000 in
set_option maxRecDepth 100000 in
theorem c_X6_begin (l : Launch) (G : va_G) (cy : Nat → ClassId) (L : Nat → Nat) (E : ms_En) (hE : ms_WT E) (u : ms_St) (o : Nat) (a1 : Nat) (a2 : Int32) (ho : ms_is E o 6) (ha1 : ms_is E a1 12) (post : ms_St → Prop) (h : wp_X6_begin E u o a1 a2 post) : ms_MetV l ⟨"CensusWalk$Tokens", "begin", "([BI)V"⟩ (Cond.code ⟨"CensusWalk$Tokens", "begin", "([BI)V"⟩ prog_8_method_2_code 3 none :: lw_g) ({ frames := 2, cells := 0, slots := 0, locals := 40 } : Room) G cy L E [.ref (L o), .ref (L a1), .int a2] u post 0 0 := by
  refine ms_enterV (lv := [(0, .ref (L o)), (1, .ref (L a1)), (2, .int a2)]) (by decide) (Nat.le_of_ble_eq_true rfl) rfl ?_
  intro p e s m args below meth c A C hr hlocks
  unfold wp_X6_begin at h
  refine a_aload_n C dX6_begin_0 rfl 0 rfl rfl ?_
  refine a_aload_n C dX6_begin_1 rfl 1 rfl rfl ?_
  obtain ⟨q2, h⟩ := h
  refine s_6_3 C dX6_begin_2 ho kw_1_224 rfl ha1.1 q2.1 q2.2 ?_
  refine a_aload_n C dX6_begin_5 rfl 0 rfl rfl ?_
  refine a_iload_n C dX6_begin_6 rfl 2 rfl rfl ?_
  refine a_aload_n C dX6_begin_7 rfl 1 rfl rfl ?_
  refine a_alen12 C dX6_begin_8 ha1 rfl ?_
  refine a_mmin C dX6_begin_9 kw_3_220 kw_3_47 kw_1_17 kw_3_48 (Nat.le_of_ble_eq_true rfl) (Nat.le_of_ble_eq_true rfl) (Nat.le_of_ble_eq_true rfl) (Nat.le_of_ble_eq_true rfl) rfl ?_
  refine s_6_4 C dX6_begin_12 ho kw_1_225 rfl ?_
  refine a_aload_n C dX6_begin_15 rfl 0 rfl rfl ?_
  refine a_iconst (v := 0) C dX6_begin_16 (by decide) rfl ?_
  refine s_6_5 C dX6_begin_17 ho kw_1_226 rfl ?_
  refine a_nmU (fun w17 e17 => ?_)
  replace h := h w17 e17
  refine a_aload_n C dX6_begin_20 rfl 0 rfl rfl ?_
  refine a_callVV C (c_X6_advance l G cy L E hE w17 o ho _ h) ho rfl (by decide) kw_3_221 kw_3_222 kw_3_223 kw_1_7 kw_3_224 rfl rfl pd_X6_advance ⟨(Nat.le_of_ble_eq_true rfl), (Nat.le_of_ble_eq_true rfl)⟩ dX6_begin_21 rfl (Nat.le_of_ble_eq_true rfl) ⟨(Nat.le_of_ble_eq_true rfl), (Nat.le_of_ble_eq_true rfl)⟩ rfl (fun u21 h => ?_)
  exact a_vret C dX6_begin_24 hr hlocks (Nat.le_of_ble_eq_true rfl) (Nat.le_of_ble_eq_true rfl) h

/-! CensusWalk$Tokens.isSign(C)Z -/
theorem pd_X6_isSign : (⟨"CensusWalk$Tokens", "isSign", "(C)Z"⟩ : MethodName).cls = "CensusWalk$Tokens" ∧ (⟨"CensusWalk$Tokens", "isSign", "(C)Z"⟩ : MethodName).cls ≠ "java/lang/invoke/MethodHandle" ∧ (⟨"CensusWalk$Tokens", "isSign", "(C)Z"⟩ : MethodName).cls ≠ "java/lang/invoke/VarHandle" ∧ (parseMethodDescriptor (⟨"CensusWalk$Tokens", "isSign", "(C)Z"⟩ : MethodName).desc).map (fun d => d.parameters.length) = some 1 := by decide +kernel
def wp_X6_isSign_21 (E : ms_En) (o : Nat) (a1 : Int32) (post : Int32 → ms_St → Prop)  (u : ms_St) (z0 : Int32) : Prop := (z0 = 0 ∨ z0 = 1) ∧ (post z0 u)
set_option maxHeartbeats 4000000 in
set_option maxRecDepth 100000 in
theorem c_X6_isSign_21 {p : Program} {l : Launch} {e : Env} {s : State} {m : MethodId} {args : Array Value} {below : List Frame} {meth : Method} {c : Code} {G : va_G} {cy : Nat → ClassId} {A : Nat → Prop} {L : Nat → Nat} {E : ms_En} (C : ms_Cx p m c cX6_isSign 2 s args (Cond.code ⟨"CensusWalk$Tokens", "isSign", "(C)Z"⟩ prog_8_method_5_code 2 (some .boolean)) "CensusWalk$Tokens" G cy A) (hr : meth.sig.returnType = (some .boolean)) (hlocks : meth.locks = false) (hE : ms_WT E) {o : Nat} {a1 : Int32} {post : Int32 → ms_St → Prop}  (ho : ms_is E o 6)  (u : ms_St) (z0 : Int32)  (h : wp_X6_isSign_21 E o a1 post u z0) : ms_At p l e ({ frames := 0, cells := 0, slots := 0, locals := 0 } : Room) s m args below meth c 2 G cy A L 0 0 (ms_QI below args s G cy L E A post 0 0) E u 21 [] [.int z0] := by
  unfold wp_X6_isSign_21 at h
  obtain ⟨q21, h⟩ := h
  exact a_zret C dX6_isSign_21 hr hlocks (Nat.le_of_ble_eq_true rfl) (Nat.le_of_ble_eq_true rfl) (ms_nz q21) h
def wp_X6_isSign_20 (E : ms_En) (o : Nat) (a1 : Int32) (post : Int32 → ms_St → Prop)  (u : ms_St)  : Prop := wp_X6_isSign_21 E o a1 post u 0
set_option maxHeartbeats 4000000 in
set_option maxRecDepth 100000 in
theorem c_X6_isSign_20 {p : Program} {l : Launch} {e : Env} {s : State} {m : MethodId} {args : Array Value} {below : List Frame} {meth : Method} {c : Code} {G : va_G} {cy : Nat → ClassId} {A : Nat → Prop} {L : Nat → Nat} {E : ms_En} (C : ms_Cx p m c cX6_isSign 2 s args (Cond.code ⟨"CensusWalk$Tokens", "isSign", "(C)Z"⟩ prog_8_method_5_code 2 (some .boolean)) "CensusWalk$Tokens" G cy A) (hr : meth.sig.returnType = (some .boolean)) (hlocks : meth.locks = false) (hE : ms_WT E) {o : Nat} {a1 : Int32} {post : Int32 → ms_St → Prop}  (ho : ms_is E o 6)  (u : ms_St)   (h : wp_X6_isSign_20 E o a1 post u ) : ms_At p l e ({ frames := 0, cells := 0, slots := 0, locals := 0 } : Room) s m args below meth c 2 G cy A L 0 0 (ms_QI below args s G cy L E A post 0 0) E u 20 [] [] := by
  unfold wp_X6_isSign_20 at h
  refine a_iconst (v := 0) C dX6_isSign_20 (by decide) rfl ?_
  exact c_X6_isSign_21 C hr hlocks hE ho  u 0  h
def wp_X6_isSign (E : ms_En) (u : ms_St) (o : Nat) (a1 : Int32) (post : Int32 → ms_St → Prop) : Prop := ((ms_I u o 0) = 3 → ((ms_I u o 2) = a1 → wp_X6_isSign_21 E o a1 post u 1) ∧ (¬ (ms_I u o 2) = a1 → wp_X6_isSign_20 E o a1 post u)) ∧ (¬ (ms_I u o 0) = 3 → wp_X6_isSign_20 E o a1 post u)
set_option maxHeartbeats 4000000 in
set_option maxRecDepth 100000 in
theorem c_X6_isSign (l : Launch) (G : va_G) (cy : Nat → ClassId) (L : Nat → Nat) (E : ms_En) (hE : ms_WT E) (u : ms_St) (o : Nat) (a1 : Int32) (ho : ms_is E o 6) (post : Int32 → ms_St → Prop) (h : wp_X6_isSign E u o a1 post) : ms_MetI l ⟨"CensusWalk$Tokens", "isSign", "(C)Z"⟩ (Cond.code ⟨"CensusWalk$Tokens", "isSign", "(C)Z"⟩ prog_8_method_5_code 2 (some .boolean) :: lw_g) ({ frames := 0, cells := 0, slots := 0, locals := 0 } : Room) G cy L E [.ref (L o), .int a1] u post 0 0 := by
  refine ms_enterI (lv := [(0, .ref (L o)), (1, .int a1)]) (by decide) (Nat.le_of_ble_eq_true rfl) rfl ?_
  intro p e s m args below meth c A C hr hlocks
  unfold wp_X6_isSign at h
  refine a_aload_n C dX6_isSign_0 rfl 0 rfl rfl ?_
  refine g_6_0 C dX6_isSign_1 ho kw_1_218 rfl ?_
  refine a_iconst (v := 3) C dX6_isSign_4 (by decide) rfl ?_
  refine a_icmp_ne (tgt := 20) C dX6_isSign_5 (by decide) rfl (fun hc => ?_) (fun hc => ?_)
  · replace h := h.2 hc
    refine a_sub (lv' := []) [] rfl ?_
    exact c_X6_isSign_20 C hr hlocks hE ho  u  h
  · replace h := h.1 hc
    refine a_aload_n C dX6_isSign_8 rfl 0 rfl rfl ?_
    refine g_6_2 C dX6_isSign_9 ho kw_1_222 rfl ?_
    refine a_iload_n C dX6_isSign_12 rfl 1 rfl rfl ?_
    refine a_icmp_ne (tgt := 20) C dX6_isSign_13 (by decide) rfl (fun hc => ?_) (fun hc => ?_)
    · replace h := h.2 hc
      refine a_sub (lv' := []) [] rfl ?_
      exact c_X6_isSign_20 C hr hlocks hE ho  u  h
    · replace h := h.1 hc
      refine a_iconst (v := 1) C dX6_isSign_16 (by decide) rfl ?_
      refine a_goto (tgt := 21) C dX6_isSign_17 (by decide) ?_
      refine a_sub (lv' := []) [] rfl ?_
      exact c_X6_isSign_21 C hr hlocks hE ho  u 1  h
