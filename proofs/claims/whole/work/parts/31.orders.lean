theorem pd_X11_tryOrders : (⟨"CensusWalkModel", "tryOrders", "(IIIII)V"⟩ : MethodName).cls = "CensusWalkModel" ∧ (⟨"CensusWalkModel", "tryOrders", "(IIIII)V"⟩ : MethodName).cls ≠ "java/lang/invoke/MethodHandle" ∧ (⟨"CensusWalkModel", "tryOrders", "(IIIII)V"⟩ : MethodName).cls ≠ "java/lang/invoke/VarHandle" ∧ (parseMethodDescriptor (⟨"CensusWalkModel", "tryOrders", "(IIIII)V"⟩ : MethodName).desc).map (fun d => d.parameters.length) = some 5 := by decide +kernel
/-! CensusWalkModel.tryOrders(IIIII)V -/
def wp_X11_tryOrders_126 (E : ms_En) (rec : ms_St → Nat → Int32 → Int32 → Int32 → Int32 → Int32 → (ms_St → Prop) → Prop) (o : Nat) (a1 : Int32) (a2 : Int32) (a3 : Int32) (a4 : Int32) (a5 : Int32) (post : ms_St → Prop)  (u : ms_St)  : Prop := post u
set_option maxHeartbeats 4000000 in
set_option maxRecDepth 100000 in
theorem c_X11_tryOrders_126 {p : Program} {l : Launch} {e : Env} {s : State} {m : MethodId} {args : Array Value} {below : List Frame} {meth : Method} {c : Code} {G : va_G} {cy : Nat → ClassId} {A : Nat → Prop} {L : Nat → Nat} {E : ms_En} (C : ms_Cx p m c cX11_tryOrders 8 s args (Cond.code ⟨"CensusWalkModel", "tryOrders", "(IIIII)V"⟩ prog_13_method_80_code 8 none) "CensusWalkModel" G cy A) (hr : meth.sig.returnType = none) (hlocks : meth.locks = false) (hE : ms_WT E) {d : Nat} {rec : ms_St → Nat → Int32 → Int32 → Int32 → Int32 → Int32 → (ms_St → Prop) → Prop} (hrec : ∀ (u : ms_St) (o : Nat) (a1 : Int32) (a2 : Int32) (a3 : Int32) (a4 : Int32) (a5 : Int32) (post : ms_St → Prop), ms_is E o 11 → rec u o a1 a2 a3 a4 a5 post → ms_MetV l ⟨"CensusWalkModel", "tryOrders", "(IIIII)V"⟩ (Cond.code ⟨"CensusWalkModel", "tryOrders", "(IIIII)V"⟩ prog_13_method_80_code 8 none :: lw_g) (ms_rm d 0) G cy L E [.ref (L o), .int a1, .int a2, .int a3, .int a4, .int a5] u post 0 0) {o : Nat} {a1 : Int32} {a2 : Int32} {a3 : Int32} {a4 : Int32} {a5 : Int32} {post : ms_St → Prop}  (ho : ms_is E o 11)  (u : ms_St)   (h : wp_X11_tryOrders_126 E rec o a1 a2 a3 a4 a5 post u ) : ms_At p l e (ms_rm d 4) s m args below meth c 8 G cy A L 0 0 (ms_QV below args s G cy L E A post 0 0) E u 126 [] [] := by
  unfold wp_X11_tryOrders_126 at h
  exact a_vret C dX11_tryOrders_126 hr hlocks (Nat.le_of_ble_eq_true rfl) (Nat.le_of_ble_eq_true rfl) h
def wp_X11_tryOrders_120 (E : ms_En) (rec : ms_St → Nat → Int32 → Int32 → Int32 → Int32 → Int32 → (ms_St → Prop) → Prop) (o : Nat) (a1 : Int32) (a2 : Int32) (a3 : Int32) (a4 : Int32) (a5 : Int32) (post : ms_St → Prop) (k28 : ms_St → Int32 → Prop) (u : ms_St) (x6 : Int32) : Prop := k28 u (x6 + 1)
set_option maxHeartbeats 4000000 in
set_option maxRecDepth 100000 in
theorem c_X11_tryOrders_120 {p : Program} {l : Launch} {e : Env} {s : State} {m : MethodId} {args : Array Value} {below : List Frame} {meth : Method} {c : Code} {G : va_G} {cy : Nat → ClassId} {A : Nat → Prop} {L : Nat → Nat} {E : ms_En} (C : ms_Cx p m c cX11_tryOrders 8 s args (Cond.code ⟨"CensusWalkModel", "tryOrders", "(IIIII)V"⟩ prog_13_method_80_code 8 none) "CensusWalkModel" G cy A) (hr : meth.sig.returnType = none) (hlocks : meth.locks = false) (hE : ms_WT E) {d : Nat} {rec : ms_St → Nat → Int32 → Int32 → Int32 → Int32 → Int32 → (ms_St → Prop) → Prop} (hrec : ∀ (u : ms_St) (o : Nat) (a1 : Int32) (a2 : Int32) (a3 : Int32) (a4 : Int32) (a5 : Int32) (post : ms_St → Prop), ms_is E o 11 → rec u o a1 a2 a3 a4 a5 post → ms_MetV l ⟨"CensusWalkModel", "tryOrders", "(IIIII)V"⟩ (Cond.code ⟨"CensusWalkModel", "tryOrders", "(IIIII)V"⟩ prog_13_method_80_code 8 none :: lw_g) (ms_rm d 0) G cy L E [.ref (L o), .int a1, .int a2, .int a3, .int a4, .int a5] u post 0 0) {o : Nat} {a1 : Int32} {a2 : Int32} {a3 : Int32} {a4 : Int32} {a5 : Int32} {post : ms_St → Prop} {k28 : ms_St → Int32 → Prop} (ho : ms_is E o 11) (hk28 : ∀ (u : ms_St) (x6 : Int32), k28 u x6 → ms_At p l e (ms_rm d 4) s m args below meth c 8 G cy A L 0 0 (ms_QV below args s G cy L E A post 0 0) E u 28 [(0, .ref (L o)), (1, .int a1), (2, .int a2), (3, .int a3), (4, .int a4), (5, .int a5), (6, .int x6)] []) (u : ms_St) (x6 : Int32)  (h : wp_X11_tryOrders_120 E rec o a1 a2 a3 a4 a5 post k28 u x6) : ms_At p l e (ms_rm d 4) s m args below meth c 8 G cy A L 0 0 (ms_QV below args s G cy L E A post 0 0) E u 120 [(0, .ref (L o)), (1, .int a1), (2, .int a2), (3, .int a3), (4, .int a4), (5, .int a5), (6, .int x6)] [] := by
  unfold wp_X11_tryOrders_120 at h
  refine a_iinc (lv' := [(0, .ref (L o)), (1, .int a1), (2, .int a2), (3, .int a3), (4, .int a4), (5, .int a5), (6, .int (x6 + 1))]) (v := (x6 + 1)) C dX11_tryOrders_120 6 rfl (congrArg (fun z => x6 + z) (by decide)) (by decide) [1, 2, 3, 4, 5, 6, 0] rfl rfl ?_
  refine a_goto (tgt := 28) C dX11_tryOrders_123 (by decide) ?_
  exact hk28 u (x6 + 1)  h
def wp_X11_tryOrders_75 (E : ms_En) (rec : ms_St → Nat → Int32 → Int32 → Int32 → Int32 → Int32 → (ms_St → Prop) → Prop) (o : Nat) (a1 : Int32) (a2 : Int32) (a3 : Int32) (a4 : Int32) (a5 : Int32) (post : ms_St → Prop) (k28 : ms_St → Int32 → Prop) (u : ms_St) (x6 : Int32) (z0 : Int32) (z1 : Int32) (z2 : Nat) : Prop := wp_X11_goesOn E u z2 z1 z0 x6 a4 (fun r79 u79 => (r79 ≤ a5 → vp_in a2 8 ∧ (rec (ms_sI u79 (ms_at E o 28) (Int32.toNatClampNeg a2) x6) o a1 (a2 + 1) (a3 ||| (1 <<< (x6 &&& 31))) r79 a5 (fun u117 => wp_X11_tryOrders_120 E rec o a1 a2 a3 a4 a5 post k28 u117 x6))) ∧ (¬ r79 ≤ a5 → wp_X11_tryOrders_120 E rec o a1 a2 a3 a4 a5 post k28 u79 x6))
set_option maxHeartbeats 4000000 in
set_option maxRecDepth 100000 in
theorem c_X11_tryOrders_75 {p : Program} {l : Launch} {e : Env} {s : State} {m : MethodId} {args : Array Value} {below : List Frame} {meth : Method} {c : Code} {G : va_G} {cy : Nat → ClassId} {A : Nat → Prop} {L : Nat → Nat} {E : ms_En} (C : ms_Cx p m c cX11_tryOrders 8 s args (Cond.code ⟨"CensusWalkModel", "tryOrders", "(IIIII)V"⟩ prog_13_method_80_code 8 none) "CensusWalkModel" G cy A) (hr : meth.sig.returnType = none) (hlocks : meth.locks = false) (hE : ms_WT E) {d : Nat} {rec : ms_St → Nat → Int32 → Int32 → Int32 → Int32 → Int32 → (ms_St → Prop) → Prop} (hrec : ∀ (u : ms_St) (o : Nat) (a1 : Int32) (a2 : Int32) (a3 : Int32) (a4 : Int32) (a5 : Int32) (post : ms_St → Prop), ms_is E o 11 → rec u o a1 a2 a3 a4 a5 post → ms_MetV l ⟨"CensusWalkModel", "tryOrders", "(IIIII)V"⟩ (Cond.code ⟨"CensusWalkModel", "tryOrders", "(IIIII)V"⟩ prog_13_method_80_code 8 none :: lw_g) (ms_rm d 0) G cy L E [.ref (L o), .int a1, .int a2, .int a3, .int a4, .int a5] u post 0 0) {o : Nat} {a1 : Int32} {a2 : Int32} {a3 : Int32} {a4 : Int32} {a5 : Int32} {post : ms_St → Prop} {k28 : ms_St → Int32 → Prop} (ho : ms_is E o 11) (hk28 : ∀ (u : ms_St) (x6 : Int32), k28 u x6 → ms_At p l e (ms_rm d 4) s m args below meth c 8 G cy A L 0 0 (ms_QV below args s G cy L E A post 0 0) E u 28 [(0, .ref (L o)), (1, .int a1), (2, .int a2), (3, .int a3), (4, .int a4), (5, .int a5), (6, .int x6)] []) (u : ms_St) (x6 : Int32) (z0 : Int32) (z1 : Int32) (z2 : Nat) (k_z2 : ms_is E z2 11) (h : wp_X11_tryOrders_75 E rec o a1 a2 a3 a4 a5 post k28 u x6 z0 z1 z2) : ms_At p l e (ms_rm d 4) s m args below meth c 8 G cy A L 0 0 (ms_QV below args s G cy L E A post 0 0) E u 75 [(0, .ref (L o)), (1, .int a1), (2, .int a2), (3, .int a3), (4, .int a4), (5, .int a5), (6, .int x6)] [.int z0, .int z1, .ref (L z2)] := by
  unfold wp_X11_tryOrders_75 at h
  refine a_iload C dX11_tryOrders_75 6 rfl rfl ?_
  refine a_iload C dX11_tryOrders_77 4 rfl rfl ?_
  refine a_callVI C (c_X11_goesOn l G cy L E hE u z2 z1 z0 x6 a4 k_z2 _ h) k_z2 rfl (by decide) kw_7_155 kw_7_157 kp_83 kw_1_12 kw_7_158 rfl rfl pd_X11_goesOn ⟨(by simp only [ms_rm]; omega), (by simp only [ms_rm]; omega)⟩ dX11_tryOrders_79 rfl (Nat.le_of_ble_eq_true rfl) ⟨(Nat.le_of_ble_eq_true rfl), (Nat.le_of_ble_eq_true rfl)⟩ rfl (fun r79 u79 h => ?_)
  refine a_istore (lv' := [(0, .ref (L o)), (1, .int a1), (2, .int a2), (3, .int a3), (4, .int a4), (5, .int a5), (6, .int x6), (7, .int r79)]) C dX11_tryOrders_82 (by decide) [1, 2, 3, 4, 5, 6, 7, 0] rfl rfl ?_
  refine a_iload C dX11_tryOrders_84 7 rfl rfl ?_
  refine a_iload C dX11_tryOrders_86 5 rfl rfl ?_
  refine a_icmp_le (tgt := 94) C dX11_tryOrders_88 (by decide) rfl (fun hc => ?_) (fun hc => ?_)
  · replace h := h.1 hc
    refine a_aload_n C dX11_tryOrders_94 rfl 0 rfl rfl ?_
    refine g_11_28 C hE dX11_tryOrders_95 ho kw_6_10 rfl ?_
    have k95 : ms_is E (ms_at E o 28) 13 := ms_wt hE ho rfl (by decide)
    have n95 : ms_N E (ms_at E o 28) = 8 := ms_wl hE ho (by decide) (by decide) rfl
    refine a_iload_n C dX11_tryOrders_98 rfl 2 rfl rfl ?_
    refine a_iload C dX11_tryOrders_99 6 rfl rfl ?_
    obtain ⟨q101, h⟩ := h
    refine a_iast C dX11_tryOrders_101 k95 n95 q101 rfl ?_
    refine a_aload_n C dX11_tryOrders_102 rfl 0 rfl rfl ?_
    refine a_iload_n C dX11_tryOrders_103 rfl 1 rfl rfl ?_
    refine a_iload_n C dX11_tryOrders_104 rfl 2 rfl rfl ?_
    refine a_iconst (v := 1) C dX11_tryOrders_105 (by decide) rfl ?_
    refine a_iadd C dX11_tryOrders_106 rfl ?_
    refine a_iload_n C dX11_tryOrders_107 rfl 3 rfl rfl ?_
    refine a_iconst (v := 1) C dX11_tryOrders_108 (by decide) rfl ?_
    refine a_iload C dX11_tryOrders_109 6 rfl rfl ?_
    refine a_ishl C dX11_tryOrders_111 rfl ?_
    refine a_ior C dX11_tryOrders_112 rfl ?_
    refine a_iload C dX11_tryOrders_113 7 rfl rfl ?_
    refine a_iload C dX11_tryOrders_115 5 rfl rfl ?_
    refine a_callVV C (hrec (ms_sI u79 (ms_at E o 28) (Int32.toNatClampNeg a2) x6) o a1 (a2 + 1) (a3 ||| (1 <<< (x6 &&& 31))) r79 a5 _ ho h) ho rfl (by decide) kw_7_171 kw_7_173 kp_86 kw_1_12 kw_7_174 rfl rfl pd_X11_tryOrders ⟨(by simp only [ms_rm]; omega), (by simp only [ms_rm]; omega)⟩ dX11_tryOrders_117 rfl (Nat.le_of_ble_eq_true rfl) ⟨(Nat.le_of_ble_eq_true rfl), (Nat.le_of_ble_eq_true rfl)⟩ rfl (fun u117 h => ?_)
    refine a_sub (lv' := [(0, .ref (L o)), (1, .int a1), (2, .int a2), (3, .int a3), (4, .int a4), (5, .int a5), (6, .int x6)]) [0, 1, 2, 3, 4, 5, 6] rfl ?_
    exact c_X11_tryOrders_120 C hr hlocks hE hrec ho hk28 u117 x6  h
  · replace h := h.2 hc
    refine a_goto (tgt := 120) C dX11_tryOrders_91 (by decide) ?_
    refine a_sub (lv' := [(0, .ref (L o)), (1, .int a1), (2, .int a2), (3, .int a3), (4, .int a4), (5, .int a5), (6, .int x6)]) [0, 1, 2, 3, 4, 5, 6] rfl ?_
    exact c_X11_tryOrders_120 C hr hlocks hE hrec ho hk28 u79 x6  h
def wp_X11_tryOrders_28 (E : ms_En) (rec : ms_St → Nat → Int32 → Int32 → Int32 → Int32 → Int32 → (ms_St → Prop) → Prop) (o : Nat) (a1 : Int32) (a2 : Int32) (a3 : Int32) (a4 : Int32) (a5 : Int32) (post : ms_St → Prop)  : Nat → ms_St → Int32 → Prop
  | 0 => fun _ _ => False
  | n + 1 => fun u x6 => ((ms_I u o 27) ≤ x6 → wp_X11_tryOrders_126 E rec o a1 a2 a3 a4 a5 post u) ∧ (¬ (ms_I u o 27) ≤ x6 → ((ms_I u o 29) = 0 → (((a3 >>> (x6 &&& 31)) &&& 1) = 1 → wp_X11_tryOrders_120 E rec o a1 a2 a3 a4 a5 post (wp_X11_tryOrders_28 E rec o a1 a2 a3 a4 a5 post n) u x6) ∧ (¬ ((a3 >>> (x6 &&& 31)) &&& 1) = 1 → (a2 = 0 → wp_X11_tryOrders_75 E rec o a1 a2 a3 a4 a5 post (wp_X11_tryOrders_28 E rec o a1 a2 a3 a4 a5 post n) u x6 (-1) a1 o) ∧ (¬ a2 = 0 → vp_in (a2 - 1) 8 ∧ (wp_X11_tryOrders_75 E rec o a1 a2 a3 a4 a5 post (wp_X11_tryOrders_28 E rec o a1 a2 a3 a4 a5 post n) u x6 (ms_I u (ms_at E o 28) (Int32.toNatClampNeg (a2 - 1))) a1 o)))) ∧ (¬ (ms_I u o 29) = 0 → wp_X11_tryOrders_126 E rec o a1 a2 a3 a4 a5 post u))
set_option maxHeartbeats 4000000 in
set_option maxRecDepth 100000 in
theorem c_X11_tryOrders_28 {p : Program} {l : Launch} {e : Env} {s : State} {m : MethodId} {args : Array Value} {below : List Frame} {meth : Method} {c : Code} {G : va_G} {cy : Nat → ClassId} {A : Nat → Prop} {L : Nat → Nat} {E : ms_En} (C : ms_Cx p m c cX11_tryOrders 8 s args (Cond.code ⟨"CensusWalkModel", "tryOrders", "(IIIII)V"⟩ prog_13_method_80_code 8 none) "CensusWalkModel" G cy A) (hr : meth.sig.returnType = none) (hlocks : meth.locks = false) (hE : ms_WT E) {d : Nat} {rec : ms_St → Nat → Int32 → Int32 → Int32 → Int32 → Int32 → (ms_St → Prop) → Prop} (hrec : ∀ (u : ms_St) (o : Nat) (a1 : Int32) (a2 : Int32) (a3 : Int32) (a4 : Int32) (a5 : Int32) (post : ms_St → Prop), ms_is E o 11 → rec u o a1 a2 a3 a4 a5 post → ms_MetV l ⟨"CensusWalkModel", "tryOrders", "(IIIII)V"⟩ (Cond.code ⟨"CensusWalkModel", "tryOrders", "(IIIII)V"⟩ prog_13_method_80_code 8 none :: lw_g) (ms_rm d 0) G cy L E [.ref (L o), .int a1, .int a2, .int a3, .int a4, .int a5] u post 0 0) {o : Nat} {a1 : Int32} {a2 : Int32} {a3 : Int32} {a4 : Int32} {a5 : Int32} {post : ms_St → Prop}  (ho : ms_is E o 11)  : ∀ (n : Nat) (u : ms_St) (x6 : Int32), wp_X11_tryOrders_28 E rec o a1 a2 a3 a4 a5 post n u x6 → ms_At p l e (ms_rm d 4) s m args below meth c 8 G cy A L 0 0 (ms_QV below args s G cy L E A post 0 0) E u 28 [(0, .ref (L o)), (1, .int a1), (2, .int a2), (3, .int a3), (4, .int a4), (5, .int a5), (6, .int x6)] [] := by
  intro n
  induction n with
  | zero =>
    intro u x6  h
    exact absurd h id
  | succ n ih =>
    intro u x6  h
    unfold wp_X11_tryOrders_28 at h
    refine a_iload C dX11_tryOrders_28 6 rfl rfl ?_
    refine a_aload_n C dX11_tryOrders_30 rfl 0 rfl rfl ?_
    refine g_11_27 C dX11_tryOrders_31 ho kw_6_9 rfl ?_
    refine a_icmp_ge (tgt := 126) C dX11_tryOrders_34 (by decide) rfl (fun hc => ?_) (fun hc => ?_)
    · replace h := h.1 hc
      refine a_sub (lv' := []) [] rfl ?_
      exact c_X11_tryOrders_126 C hr hlocks hE hrec ho  u  h
    · replace h := h.2 hc
      refine a_aload_n C dX11_tryOrders_37 rfl 0 rfl rfl ?_
      refine g_11_29 C dX11_tryOrders_38 ho kw_6_11 rfl ?_
      refine a_if_ne (tgt := 126) C dX11_tryOrders_41 (by decide) rfl (fun hc => ?_) (fun hc => ?_)
      · replace h := h.2 hc
        refine a_sub (lv' := []) [] rfl ?_
        exact c_X11_tryOrders_126 C hr hlocks hE hrec ho  u  h
      · replace h := h.1 hc
        refine a_iload_n C dX11_tryOrders_44 rfl 3 rfl rfl ?_
        refine a_iload C dX11_tryOrders_45 6 rfl rfl ?_
        refine a_ishr C dX11_tryOrders_47 rfl ?_
        refine a_iconst (v := 1) C dX11_tryOrders_48 (by decide) rfl ?_
        refine a_iand C dX11_tryOrders_49 rfl ?_
        refine a_iconst (v := 1) C dX11_tryOrders_50 (by decide) rfl ?_
        refine a_icmp_ne (tgt := 57) C dX11_tryOrders_51 (by decide) rfl (fun hc => ?_) (fun hc => ?_)
        · replace h := h.2 hc
          refine a_aload_n C dX11_tryOrders_57 rfl 0 rfl rfl ?_
          refine a_iload_n C dX11_tryOrders_58 rfl 1 rfl rfl ?_
          refine a_iload_n C dX11_tryOrders_59 rfl 2 rfl rfl ?_
          refine a_if_ne (tgt := 67) C dX11_tryOrders_60 (by decide) rfl (fun hc => ?_) (fun hc => ?_)
          · replace h := h.2 hc
            refine a_aload_n C dX11_tryOrders_67 rfl 0 rfl rfl ?_
            refine g_11_28 C hE dX11_tryOrders_68 ho kw_6_10 rfl ?_
            have k68 : ms_is E (ms_at E o 28) 13 := ms_wt hE ho rfl (by decide)
            have n68 : ms_N E (ms_at E o 28) = 8 := ms_wl hE ho (by decide) (by decide) rfl
            refine a_iload_n C dX11_tryOrders_71 rfl 2 rfl rfl ?_
            refine a_iconst (v := 1) C dX11_tryOrders_72 (by decide) rfl ?_
            refine a_isub C dX11_tryOrders_73 rfl ?_
            obtain ⟨q74, h⟩ := h
            refine a_iald C dX11_tryOrders_74 k68 n68 q74 rfl ?_
            exact c_X11_tryOrders_75 C hr hlocks hE hrec ho ih u x6 (ms_I u (ms_at E o 28) (Int32.toNatClampNeg (a2 - 1))) a1 o ho h
          · replace h := h.1 hc
            refine a_iconst (v := (-1)) C dX11_tryOrders_63 (by decide) rfl ?_
            refine a_goto (tgt := 75) C dX11_tryOrders_64 (by decide) ?_
            exact c_X11_tryOrders_75 C hr hlocks hE hrec ho ih u x6 (-1) a1 o ho h
        · replace h := h.1 hc
          refine a_goto (tgt := 120) C dX11_tryOrders_54 (by decide) ?_
          exact c_X11_tryOrders_120 C hr hlocks hE hrec ho ih u x6  h
def wp_X11_tryOrders_21 (E : ms_En) (rec : ms_St → Nat → Int32 → Int32 → Int32 → Int32 → Int32 → (ms_St → Prop) → Prop) (o : Nat) (a1 : Int32) (a2 : Int32) (a3 : Int32) (a4 : Int32) (a5 : Int32) (post : ms_St → Prop)  (u : ms_St) (z0 : Int32) (z1 : Nat) : Prop := (z0 = 0 ∨ z0 = 1) ∧ (post (ms_sI u z1 29 z0))
set_option maxHeartbeats 4000000 in
set_option maxRecDepth 100000 in
theorem c_X11_tryOrders_21 {p : Program} {l : Launch} {e : Env} {s : State} {m : MethodId} {args : Array Value} {below : List Frame} {meth : Method} {c : Code} {G : va_G} {cy : Nat → ClassId} {A : Nat → Prop} {L : Nat → Nat} {E : ms_En} (C : ms_Cx p m c cX11_tryOrders 8 s args (Cond.code ⟨"CensusWalkModel", "tryOrders", "(IIIII)V"⟩ prog_13_method_80_code 8 none) "CensusWalkModel" G cy A) (hr : meth.sig.returnType = none) (hlocks : meth.locks = false) (hE : ms_WT E) {d : Nat} {rec : ms_St → Nat → Int32 → Int32 → Int32 → Int32 → Int32 → (ms_St → Prop) → Prop} (hrec : ∀ (u : ms_St) (o : Nat) (a1 : Int32) (a2 : Int32) (a3 : Int32) (a4 : Int32) (a5 : Int32) (post : ms_St → Prop), ms_is E o 11 → rec u o a1 a2 a3 a4 a5 post → ms_MetV l ⟨"CensusWalkModel", "tryOrders", "(IIIII)V"⟩ (Cond.code ⟨"CensusWalkModel", "tryOrders", "(IIIII)V"⟩ prog_13_method_80_code 8 none :: lw_g) (ms_rm d 0) G cy L E [.ref (L o), .int a1, .int a2, .int a3, .int a4, .int a5] u post 0 0) {o : Nat} {a1 : Int32} {a2 : Int32} {a3 : Int32} {a4 : Int32} {a5 : Int32} {post : ms_St → Prop}  (ho : ms_is E o 11)  (u : ms_St) (z0 : Int32) (z1 : Nat) (k_z1 : ms_is E z1 11) (h : wp_X11_tryOrders_21 E rec o a1 a2 a3 a4 a5 post u z0 z1) : ms_At p l e (ms_rm d 4) s m args below meth c 8 G cy A L 0 0 (ms_QV below args s G cy L E A post 0 0) E u 21 [] [.int z0, .ref (L z1)] := by
  unfold wp_X11_tryOrders_21 at h
  obtain ⟨q21, h⟩ := h
  refine s_11_29 C dX11_tryOrders_21 k_z1 kw_6_11 rfl (ms_nz q21) (ms_fz q21) ?_
  exact a_vret C dX11_tryOrders_24 hr hlocks (Nat.le_of_ble_eq_true rfl) (Nat.le_of_ble_eq_true rfl) h
def wp_X11_tryOrders (E : ms_En) (rec : ms_St → Nat → Int32 → Int32 → Int32 → Int32 → Int32 → (ms_St → Prop) → Prop) (u : ms_St) (o : Nat) (a1 : Int32) (a2 : Int32) (a3 : Int32) (a4 : Int32) (a5 : Int32) (post : ms_St → Prop) : Prop := (a2 = (ms_I u o 27) → (a4 = a5 → wp_X11_tryOrders_21 E rec o a1 a2 a3 a4 a5 post u 1 o) ∧ (¬ a4 = a5 → wp_X11_tryOrders_21 E rec o a1 a2 a3 a4 a5 post u 0 o)) ∧ (¬ a2 = (ms_I u o 27) → ∃ n28, wp_X11_tryOrders_28 E rec o a1 a2 a3 a4 a5 post n28 u 0)
set_option maxHeartbeats 4000000 in
set_option maxRecDepth 100000 in
theorem c_X11_tryOrders (l : Launch) (G : va_G) (cy : Nat → ClassId) (L : Nat → Nat) (E : ms_En) (hE : ms_WT E) {d : Nat} (rec : ms_St → Nat → Int32 → Int32 → Int32 → Int32 → Int32 → (ms_St → Prop) → Prop) (hrec : ∀ (u : ms_St) (o : Nat) (a1 : Int32) (a2 : Int32) (a3 : Int32) (a4 : Int32) (a5 : Int32) (post : ms_St → Prop), ms_is E o 11 → rec u o a1 a2 a3 a4 a5 post → ms_MetV l ⟨"CensusWalkModel", "tryOrders", "(IIIII)V"⟩ (Cond.code ⟨"CensusWalkModel", "tryOrders", "(IIIII)V"⟩ prog_13_method_80_code 8 none :: lw_g) (ms_rm d 0) G cy L E [.ref (L o), .int a1, .int a2, .int a3, .int a4, .int a5] u post 0 0) (u : ms_St) (o : Nat) (a1 : Int32) (a2 : Int32) (a3 : Int32) (a4 : Int32) (a5 : Int32) (ho : ms_is E o 11) (post : ms_St → Prop) (h : wp_X11_tryOrders E rec u o a1 a2 a3 a4 a5 post) : ms_MetV l ⟨"CensusWalkModel", "tryOrders", "(IIIII)V"⟩ (Cond.code ⟨"CensusWalkModel", "tryOrders", "(IIIII)V"⟩ prog_13_method_80_code 8 none :: lw_g) (ms_rm d 4) G cy L E [.ref (L o), .int a1, .int a2, .int a3, .int a4, .int a5] u post 0 0 := by
  refine ms_enterV (lv := [(0, .ref (L o)), (1, .int a1), (2, .int a2), (3, .int a3), (4, .int a4), (5, .int a5)]) (by decide) (Nat.le_of_ble_eq_true rfl) rfl ?_
  intro p e s m args below meth c A C hr hlocks
  unfold wp_X11_tryOrders at h
  refine a_iload_n C dX11_tryOrders_0 rfl 2 rfl rfl ?_
  refine a_aload_n C dX11_tryOrders_1 rfl 0 rfl rfl ?_
  refine g_11_27 C dX11_tryOrders_2 ho kw_6_9 rfl ?_
  refine a_icmp_ne (tgt := 25) C dX11_tryOrders_5 (by decide) rfl (fun hc => ?_) (fun hc => ?_)
  · replace h := h.2 hc
    refine a_iconst (v := 0) C dX11_tryOrders_25 (by decide) rfl ?_
    refine a_istore (lv' := [(0, .ref (L o)), (1, .int a1), (2, .int a2), (3, .int a3), (4, .int a4), (5, .int a5), (6, .int 0)]) C dX11_tryOrders_26 (by decide) [1, 2, 3, 4, 5, 6, 0] rfl rfl ?_
    obtain ⟨n9, h⟩ := h
    exact c_X11_tryOrders_28 C hr hlocks hE hrec ho  n9 u 0  h
  · replace h := h.1 hc
    refine a_aload_n C dX11_tryOrders_8 rfl 0 rfl rfl ?_
    refine a_iload C dX11_tryOrders_9 4 rfl rfl ?_
    refine a_iload C dX11_tryOrders_11 5 rfl rfl ?_
    refine a_icmp_ne (tgt := 20) C dX11_tryOrders_13 (by decide) rfl (fun hc => ?_) (fun hc => ?_)
    · replace h := h.2 hc
      refine a_iconst (v := 0) C dX11_tryOrders_20 (by decide) rfl ?_
      refine a_sub (lv' := []) [] rfl ?_
      exact c_X11_tryOrders_21 C hr hlocks hE hrec ho  u 0 o ho h
    · replace h := h.1 hc
      refine a_iconst (v := 1) C dX11_tryOrders_16 (by decide) rfl ?_
      refine a_goto (tgt := 21) C dX11_tryOrders_17 (by decide) ?_
      refine a_sub (lv' := []) [] rfl ?_
      exact c_X11_tryOrders_21 C hr hlocks hE hrec ho  u 1 o ho h

def WP_X11_tryOrders (E : ms_En) : Nat → ms_St → Nat → Int32 → Int32 → Int32 → Int32 → Int32 → (ms_St → Prop) → Prop
  | 0 => fun _ _ _ _ _ _ _ _ => False
  | d + 1 => fun u o a1 a2 a3 a4 a5 post => wp_X11_tryOrders E (WP_X11_tryOrders E d) u o a1 a2 a3 a4 a5 post
theorem C_X11_tryOrders (l : Launch) (G : va_G) (cy : Nat → ClassId) (L : Nat → Nat) (E : ms_En) (hE : ms_WT E) : ∀ (d : Nat) (u : ms_St) (o : Nat) (a1 : Int32) (a2 : Int32) (a3 : Int32) (a4 : Int32) (a5 : Int32) (post : ms_St → Prop), ms_is E o 11 → WP_X11_tryOrders E d u o a1 a2 a3 a4 a5 post → ms_MetV l ⟨"CensusWalkModel", "tryOrders", "(IIIII)V"⟩ (Cond.code ⟨"CensusWalkModel", "tryOrders", "(IIIII)V"⟩ prog_13_method_80_code 8 none :: lw_g) (ms_rm d 0) G cy L E [.ref (L o), .int a1, .int a2, .int a3, .int a4, .int a5] u post 0 0 := by
  intro d
  induction d with
  | zero =>
    intro u o a1 a2 a3 a4 a5 post ho h
    exact absurd h id
  | succ d ih =>
    intro u o a1 a2 a3 a4 a5 post ho h
    rw [ms_rm_succ]
    exact c_X11_tryOrders l G cy L E hE (WP_X11_tryOrders E d) ih u o a1 a2 a3 a4 a5 ho post h
