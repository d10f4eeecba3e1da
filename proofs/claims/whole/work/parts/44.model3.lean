/-! CensusWalkModel.statement()V -/
theorem pd_X11_statement : (⟨"CensusWalkModel", "statement", "()V"⟩ : MethodName).cls = "CensusWalkModel" ∧ (⟨"CensusWalkModel", "statement", "()V"⟩ : MethodName).cls ≠ "java/lang/invoke/MethodHandle" ∧ (⟨"CensusWalkModel", "statement", "()V"⟩ : MethodName).cls ≠ "java/lang/invoke/VarHandle" ∧ (parseMethodDescriptor (⟨"CensusWalkModel", "statement", "()V"⟩ : MethodName).desc).map (fun d => d.parameters.length) = some 0 := by decide +kernel
def wp_X11_statement_161 (E : ms_En) (o : Nat) (post : ms_St → Prop)  (u : ms_St)  : Prop := wp_X11_expect E u o 59 (fun u164 => post u164)
set_option maxHeartbeats 4000000 in
set_option maxRecDepth 100000 in
theorem c_X11_statement_161 {p : Program} {l : Launch} {e : Env} {s : State} {m : MethodId} {args : Array Value} {below : List Frame} {meth : Method} {c : Code} {G : va_G} {cy : Nat → ClassId} {A : Nat → Prop} {L : Nat → Nat} {E : ms_En} (C : ms_Cx p m c cX11_statement 2 s args (Cond.code ⟨"CensusWalkModel", "statement", "()V"⟩ prog_13_method_27_code 2 none) "CensusWalkModel" G cy A) (hr : meth.sig.returnType = none) (hlocks : meth.locks = false) (hE : ms_WT E) {o : Nat} {post : ms_St → Prop}  (ho : ms_is E o 11)  (u : ms_St)   (h : wp_X11_statement_161 E o post u ) : ms_At p l e ({ frames := 45, cells := 0, slots := 0, locals := 2461 } : Room) s m args below meth c 2 G cy A L 0 0 (ms_QV below args s G cy L E A post 0 0) E u 161 [(0, .ref (L o))] [] := by
  unfold wp_X11_statement_161 at h
  refine a_aload_n C dX11_statement_161 rfl 0 rfl rfl ?_
  refine a_bipush (v := 59) C dX11_statement_162 (by decide) rfl ?_
  refine a_callVV C (c_X11_expect l G cy L E hE u o 59 ho _ h) ho rfl (by decide) kw_6_139 kw_6_141 kp_50 kw_1_12 kw_6_142 rfl rfl pd_X11_expect ⟨(Nat.le_of_ble_eq_true rfl), (Nat.le_of_ble_eq_true rfl)⟩ dX11_statement_164 rfl (Nat.le_of_ble_eq_true rfl) ⟨(Nat.le_of_ble_eq_true rfl), (Nat.le_of_ble_eq_true rfl)⟩ rfl (fun u164 h => ?_)
  exact a_vret C dX11_statement_167 hr hlocks (Nat.le_of_ble_eq_true rfl) (Nat.le_of_ble_eq_true rfl) h
def wp_X11_statement (E : ms_En) (u : ms_St) (o : Nat) (post : ms_St → Prop) : Prop := wp_X11_next E u o (fun r1 u1 => ∀ v9 : Int32, v9 = (ms_I u1 o 4) → (wp_X11_takeWord E u1 o 24 (fun r13 u13 => (r13 = 0 → wp_X11_takeWord E u13 o 25 (fun r30 u30 => (r30 = 0 → wp_X11_takeWord E u30 o 27 (fun r47 u47 => (r47 = 0 → wp_X11_takeWord E u47 o 28 (fun r64 u64 => (r64 = 0 → wp_X11_takeWord E u64 o 29 (fun r95 u95 => (r95 = 0 → wp_X11_takeWord E u95 o 30 (fun r127 u127 => (r127 = 0 → wp_X11_report E u127 o (-2) v9 (fun u158 => wp_X11_statement_161 E o post u158)) ∧ (¬ r127 = 0 → wp_X11_once E u127 o 2 v9 (fun u136 => vp_in 6 1613 ∧ (WP_X11_sum E 6 (ms_sI u136 (ms_at E o 9) (Int32.toNatClampNeg 6) 1) o (fun u148 => wp_X11_statement_161 E o post u148)))))) ∧ (¬ r95 = 0 → wp_X11_once E u95 o 1 v9 (fun u104 => wp_X11_number E u104 o 0 600 (fun r117 u117 => vp_in 5 1613 ∧ (wp_X11_statement_161 E o post (ms_sI u117 (ms_at E o 9) (Int32.toNatClampNeg 5) r117))))))) ∧ (¬ r64 = 0 → wp_X11_once E u64 o 0 v9 (fun u73 => wp_X11_number E u73 o 0 9 (fun r85 u85 => vp_in 4 1613 ∧ (wp_X11_statement_161 E o post (ms_sI u85 (ms_at E o 9) (Int32.toNatClampNeg 4) r85))))))) ∧ (¬ r47 = 0 → wp_X11_readWalker E u47 o v9 (fun u55 => wp_X11_statement_161 E o post u55)))) ∧ (¬ r30 = 0 → wp_X11_readHouse E u30 o v9 (fun u38 => wp_X11_statement_161 E o post u38)))) ∧ (¬ r13 = 0 → wp_X11_readStreet E u13 o v9 (fun u21 => wp_X11_statement_161 E o post u21)))))
set_option maxHeartbeats 4000000 in
set_option maxRecDepth 100000 in
theorem c_X11_statement (l : Launch) (G : va_G) (cy : Nat → ClassId) (L : Nat → Nat) (E : ms_En) (hE : ms_WT E) (u : ms_St) (o : Nat) (ho : ms_is E o 11) (post : ms_St → Prop) (h : wp_X11_statement E u o post) : ms_MetV l ⟨"CensusWalkModel", "statement", "()V"⟩ (Cond.code ⟨"CensusWalkModel", "statement", "()V"⟩ prog_13_method_27_code 2 none :: lw_g) ({ frames := 45, cells := 0, slots := 0, locals := 2461 } : Room) G cy L E [.ref (L o)] u post 0 0 := by
  refine ms_enterV (lv := [(0, .ref (L o))]) (by decide) (Nat.le_of_ble_eq_true rfl) rfl ?_
  intro p e s m args below meth c A C hr hlocks
  unfold wp_X11_statement at h
  refine a_aload_n C dX11_statement_0 rfl 0 rfl rfl ?_
  refine a_callVI C (c_X11_next l G cy L E hE u o ho _ h) ho rfl (by decide) kw_6_114 kw_6_116 kp_46 kw_1_12 kw_6_117 rfl rfl pd_X11_next ⟨(Nat.le_of_ble_eq_true rfl), (Nat.le_of_ble_eq_true rfl)⟩ dX11_statement_1 rfl (Nat.le_of_ble_eq_true rfl) ⟨(Nat.le_of_ble_eq_true rfl), (Nat.le_of_ble_eq_true rfl)⟩ rfl (fun r1 u1 h => ?_)
  refine a_pop C dX11_statement_4 rfl rfl ?_
  refine a_aload_n C dX11_statement_5 rfl 0 rfl rfl ?_
  refine g_11_4 C dX11_statement_6 ho kw_5_226 rfl ?_
  refine a_nmI (fun v9 e9 => ?_)
  replace h := h v9 e9
  refine a_istore_n (lv' := [(0, .ref (L o)), (1, .int v9)]) C dX11_statement_9 rfl (by decide) [1, 0] rfl rfl ?_
  refine a_aload_n C dX11_statement_10 rfl 0 rfl rfl ?_
  refine a_ldcS (j := 24) C dX11_statement_11 rfl rfl rfl rfl ?_
  refine a_callVI C (c_X11_takeWord l G cy L E hE u1 o 24 ho (by decide) _ h) ho rfl (by decide) kw_6_106 kw_6_108 kp_44 kw_1_12 kw_6_109 rfl rfl pd_X11_takeWord ⟨(Nat.le_of_ble_eq_true rfl), (Nat.le_of_ble_eq_true rfl)⟩ dX11_statement_13 rfl (Nat.le_of_ble_eq_true rfl) ⟨(Nat.le_of_ble_eq_true rfl), (Nat.le_of_ble_eq_true rfl)⟩ rfl (fun r13 u13 h => ?_)
  refine a_if_eq (tgt := 27) C dX11_statement_16 (by decide) rfl (fun hc => ?_) (fun hc => ?_)
  · replace h := h.1 hc
    refine a_aload_n C dX11_statement_27 rfl 0 rfl rfl ?_
    refine a_ldcS (j := 25) C dX11_statement_28 rfl rfl rfl rfl ?_
    refine a_callVI C (c_X11_takeWord l G cy L E hE u13 o 25 ho (by decide) _ h) ho rfl (by decide) kw_6_106 kw_6_108 kp_44 kw_1_12 kw_6_109 rfl rfl pd_X11_takeWord ⟨(Nat.le_of_ble_eq_true rfl), (Nat.le_of_ble_eq_true rfl)⟩ dX11_statement_30 rfl (Nat.le_of_ble_eq_true rfl) ⟨(Nat.le_of_ble_eq_true rfl), (Nat.le_of_ble_eq_true rfl)⟩ rfl (fun r30 u30 h => ?_)
    refine a_if_eq (tgt := 44) C dX11_statement_33 (by decide) rfl (fun hc => ?_) (fun hc => ?_)
    · replace h := h.1 hc
      refine a_aload_n C dX11_statement_44 rfl 0 rfl rfl ?_
      refine a_ldcS (j := 27) C dX11_statement_45 rfl rfl rfl rfl ?_
      refine a_callVI C (c_X11_takeWord l G cy L E hE u30 o 27 ho (by decide) _ h) ho rfl (by decide) kw_6_106 kw_6_108 kp_44 kw_1_12 kw_6_109 rfl rfl pd_X11_takeWord ⟨(Nat.le_of_ble_eq_true rfl), (Nat.le_of_ble_eq_true rfl)⟩ dX11_statement_47 rfl (Nat.le_of_ble_eq_true rfl) ⟨(Nat.le_of_ble_eq_true rfl), (Nat.le_of_ble_eq_true rfl)⟩ rfl (fun r47 u47 h => ?_)
      refine a_if_eq (tgt := 61) C dX11_statement_50 (by decide) rfl (fun hc => ?_) (fun hc => ?_)
      · replace h := h.1 hc
        refine a_aload_n C dX11_statement_61 rfl 0 rfl rfl ?_
        refine a_ldcS (j := 28) C dX11_statement_62 rfl rfl rfl rfl ?_
        refine a_callVI C (c_X11_takeWord l G cy L E hE u47 o 28 ho (by decide) _ h) ho rfl (by decide) kw_6_106 kw_6_108 kp_44 kw_1_12 kw_6_109 rfl rfl pd_X11_takeWord ⟨(Nat.le_of_ble_eq_true rfl), (Nat.le_of_ble_eq_true rfl)⟩ dX11_statement_64 rfl (Nat.le_of_ble_eq_true rfl) ⟨(Nat.le_of_ble_eq_true rfl), (Nat.le_of_ble_eq_true rfl)⟩ rfl (fun r64 u64 h => ?_)
        refine a_if_eq (tgt := 92) C dX11_statement_67 (by decide) rfl (fun hc => ?_) (fun hc => ?_)
        · replace h := h.1 hc
          refine a_aload_n C dX11_statement_92 rfl 0 rfl rfl ?_
          refine a_ldcS (j := 29) C dX11_statement_93 rfl rfl rfl rfl ?_
          refine a_callVI C (c_X11_takeWord l G cy L E hE u64 o 29 ho (by decide) _ h) ho rfl (by decide) kw_6_106 kw_6_108 kp_44 kw_1_12 kw_6_109 rfl rfl pd_X11_takeWord ⟨(Nat.le_of_ble_eq_true rfl), (Nat.le_of_ble_eq_true rfl)⟩ dX11_statement_95 rfl (Nat.le_of_ble_eq_true rfl) ⟨(Nat.le_of_ble_eq_true rfl), (Nat.le_of_ble_eq_true rfl)⟩ rfl (fun r95 u95 h => ?_)
          refine a_if_eq (tgt := 124) C dX11_statement_98 (by decide) rfl (fun hc => ?_) (fun hc => ?_)
          · replace h := h.1 hc
            refine a_aload_n C dX11_statement_124 rfl 0 rfl rfl ?_
            refine a_ldcS (j := 30) C dX11_statement_125 rfl rfl rfl rfl ?_
            refine a_callVI C (c_X11_takeWord l G cy L E hE u95 o 30 ho (by decide) _ h) ho rfl (by decide) kw_6_106 kw_6_108 kp_44 kw_1_12 kw_6_109 rfl rfl pd_X11_takeWord ⟨(Nat.le_of_ble_eq_true rfl), (Nat.le_of_ble_eq_true rfl)⟩ dX11_statement_127 rfl (Nat.le_of_ble_eq_true rfl) ⟨(Nat.le_of_ble_eq_true rfl), (Nat.le_of_ble_eq_true rfl)⟩ rfl (fun r127 u127 h => ?_)
            refine a_if_eq (tgt := 154) C dX11_statement_130 (by decide) rfl (fun hc => ?_) (fun hc => ?_)
            · replace h := h.1 hc
              refine a_aload_n C dX11_statement_154 rfl 0 rfl rfl ?_
              refine a_bipush (v := (-2)) C dX11_statement_155 (by decide) rfl ?_
              refine a_iload_n C dX11_statement_157 rfl 1 rfl rfl ?_
              refine a_callVV C (c_X11_report l G cy L E hE u127 o (-2) v9 ho _ h) ho rfl (by decide) kw_6_124 kw_6_126 kp_48 kw_1_12 kw_6_127 rfl rfl pd_X11_report ⟨(Nat.le_of_ble_eq_true rfl), (Nat.le_of_ble_eq_true rfl)⟩ dX11_statement_158 rfl (Nat.le_of_ble_eq_true rfl) ⟨(Nat.le_of_ble_eq_true rfl), (Nat.le_of_ble_eq_true rfl)⟩ rfl (fun u158 h => ?_)
              refine a_sub (lv' := [(0, .ref (L o))]) [0] rfl ?_
              exact c_X11_statement_161 C hr hlocks hE ho  u158  h
            · replace h := h.2 hc
              refine a_aload_n C dX11_statement_133 rfl 0 rfl rfl ?_
              refine a_iconst (v := 2) C dX11_statement_134 (by decide) rfl ?_
              refine a_iload_n C dX11_statement_135 rfl 1 rfl rfl ?_
              refine a_callVV C (c_X11_once l G cy L E hE u127 o 2 v9 ho _ h) ho rfl (by decide) kw_6_173 kw_6_175 kp_55 kw_1_12 kw_6_176 rfl rfl pd_X11_once ⟨(Nat.le_of_ble_eq_true rfl), (Nat.le_of_ble_eq_true rfl)⟩ dX11_statement_136 rfl (Nat.le_of_ble_eq_true rfl) ⟨(Nat.le_of_ble_eq_true rfl), (Nat.le_of_ble_eq_true rfl)⟩ rfl (fun u136 h => ?_)
              refine a_aload_n C dX11_statement_139 rfl 0 rfl rfl ?_
              refine g_11_9 C hE dX11_statement_140 ho kw_5_231 rfl ?_
              have k140 : ms_is E (ms_at E o 9) 13 := ms_wt hE ho rfl (by decide)
              have n140 : ms_N E (ms_at E o 9) = 1613 := ms_wl hE ho (by decide) (by decide) rfl
              refine a_bipush (v := 6) C dX11_statement_143 (by decide) rfl ?_
              refine a_iconst (v := 1) C dX11_statement_145 (by decide) rfl ?_
              obtain ⟨q146, h⟩ := h
              refine a_iast C dX11_statement_146 k140 n140 q146 rfl ?_
              refine a_aload_n C dX11_statement_147 rfl 0 rfl rfl ?_
              refine a_callVV C (C_X11_sum l G cy L E hE 6 (ms_sI u136 (ms_at E o 9) (Int32.toNatClampNeg 6) 1) o _ ho h) ho rfl (by decide) kw_6_179 kw_6_181 kp_56 kw_1_12 kw_6_182 rfl rfl pd_X11_sum ⟨(Nat.le_of_ble_eq_true rfl), (Nat.le_of_ble_eq_true rfl)⟩ dX11_statement_148 rfl (Nat.le_of_ble_eq_true rfl) ⟨(Nat.le_of_ble_eq_true rfl), (Nat.le_of_ble_eq_true rfl)⟩ rfl (fun u148 h => ?_)
              refine a_goto (tgt := 161) C dX11_statement_151 (by decide) ?_
              refine a_sub (lv' := [(0, .ref (L o))]) [0] rfl ?_
              exact c_X11_statement_161 C hr hlocks hE ho  u148  h
          · replace h := h.2 hc
            refine a_aload_n C dX11_statement_101 rfl 0 rfl rfl ?_
            refine a_iconst (v := 1) C dX11_statement_102 (by decide) rfl ?_
            refine a_iload_n C dX11_statement_103 rfl 1 rfl rfl ?_
            refine a_callVV C (c_X11_once l G cy L E hE u95 o 1 v9 ho _ h) ho rfl (by decide) kw_6_173 kw_6_175 kp_55 kw_1_12 kw_6_176 rfl rfl pd_X11_once ⟨(Nat.le_of_ble_eq_true rfl), (Nat.le_of_ble_eq_true rfl)⟩ dX11_statement_104 rfl (Nat.le_of_ble_eq_true rfl) ⟨(Nat.le_of_ble_eq_true rfl), (Nat.le_of_ble_eq_true rfl)⟩ rfl (fun u104 h => ?_)
            refine a_aload_n C dX11_statement_107 rfl 0 rfl rfl ?_
            refine g_11_9 C hE dX11_statement_108 ho kw_5_231 rfl ?_
            have k108 : ms_is E (ms_at E o 9) 13 := ms_wt hE ho rfl (by decide)
            have n108 : ms_N E (ms_at E o 9) = 1613 := ms_wl hE ho (by decide) (by decide) rfl
            refine a_iconst (v := 5) C dX11_statement_111 (by decide) rfl ?_
            refine a_aload_n C dX11_statement_112 rfl 0 rfl rfl ?_
            refine a_iconst (v := 0) C dX11_statement_113 (by decide) rfl ?_
            refine a_sipush (v := 600) C dX11_statement_114 (by decide) rfl ?_
            refine a_callVI C (c_X11_number l G cy L E hE u104 o 0 600 ho _ h) ho rfl (by decide) kw_6_128 kw_6_130 kp_49 kw_1_12 kw_6_131 rfl rfl pd_X11_number ⟨(Nat.le_of_ble_eq_true rfl), (Nat.le_of_ble_eq_true rfl)⟩ dX11_statement_117 rfl (Nat.le_of_ble_eq_true rfl) ⟨(Nat.le_of_ble_eq_true rfl), (Nat.le_of_ble_eq_true rfl)⟩ rfl (fun r117 u117 h => ?_)
            obtain ⟨q120, h⟩ := h
            refine a_iast C dX11_statement_120 k108 n108 q120 rfl ?_
            refine a_goto (tgt := 161) C dX11_statement_121 (by decide) ?_
            refine a_sub (lv' := [(0, .ref (L o))]) [0] rfl ?_
            exact c_X11_statement_161 C hr hlocks hE ho  (ms_sI u117 (ms_at E o 9) (Int32.toNatClampNeg 5) r117)  h
        · replace h := h.2 hc
          refine a_aload_n C dX11_statement_70 rfl 0 rfl rfl ?_
          refine a_iconst (v := 0) C dX11_statement_71 (by decide) rfl ?_
          refine a_iload_n C dX11_statement_72 rfl 1 rfl rfl ?_
          refine a_callVV C (c_X11_once l G cy L E hE u64 o 0 v9 ho _ h) ho rfl (by decide) kw_6_173 kw_6_175 kp_55 kw_1_12 kw_6_176 rfl rfl pd_X11_once ⟨(Nat.le_of_ble_eq_true rfl), (Nat.le_of_ble_eq_true rfl)⟩ dX11_statement_73 rfl (Nat.le_of_ble_eq_true rfl) ⟨(Nat.le_of_ble_eq_true rfl), (Nat.le_of_ble_eq_true rfl)⟩ rfl (fun u73 h => ?_)
          refine a_aload_n C dX11_statement_76 rfl 0 rfl rfl ?_
          refine g_11_9 C hE dX11_statement_77 ho kw_5_231 rfl ?_
          have k77 : ms_is E (ms_at E o 9) 13 := ms_wt hE ho rfl (by decide)
          have n77 : ms_N E (ms_at E o 9) = 1613 := ms_wl hE ho (by decide) (by decide) rfl
          refine a_iconst (v := 4) C dX11_statement_80 (by decide) rfl ?_
          refine a_aload_n C dX11_statement_81 rfl 0 rfl rfl ?_
          refine a_iconst (v := 0) C dX11_statement_82 (by decide) rfl ?_
          refine a_bipush (v := 9) C dX11_statement_83 (by decide) rfl ?_
          refine a_callVI C (c_X11_number l G cy L E hE u73 o 0 9 ho _ h) ho rfl (by decide) kw_6_128 kw_6_130 kp_49 kw_1_12 kw_6_131 rfl rfl pd_X11_number ⟨(Nat.le_of_ble_eq_true rfl), (Nat.le_of_ble_eq_true rfl)⟩ dX11_statement_85 rfl (Nat.le_of_ble_eq_true rfl) ⟨(Nat.le_of_ble_eq_true rfl), (Nat.le_of_ble_eq_true rfl)⟩ rfl (fun r85 u85 h => ?_)
          obtain ⟨q88, h⟩ := h
          refine a_iast C dX11_statement_88 k77 n77 q88 rfl ?_
          refine a_goto (tgt := 161) C dX11_statement_89 (by decide) ?_
          refine a_sub (lv' := [(0, .ref (L o))]) [0] rfl ?_
          exact c_X11_statement_161 C hr hlocks hE ho  (ms_sI u85 (ms_at E o 9) (Int32.toNatClampNeg 4) r85)  h
      · replace h := h.2 hc
        refine a_aload_n C dX11_statement_53 rfl 0 rfl rfl ?_
        refine a_iload_n C dX11_statement_54 rfl 1 rfl rfl ?_
        refine a_callVV C (c_X11_readWalker l G cy L E hE u47 o v9 ho _ h) ho rfl (by decide) kw_6_165 kw_6_167 kp_54 kw_1_12 kw_6_168 rfl rfl pd_X11_readWalker ⟨(Nat.le_of_ble_eq_true rfl), (Nat.le_of_ble_eq_true rfl)⟩ dX11_statement_55 rfl (Nat.le_of_ble_eq_true rfl) ⟨(Nat.le_of_ble_eq_true rfl), (Nat.le_of_ble_eq_true rfl)⟩ rfl (fun u55 h => ?_)
        refine a_goto (tgt := 161) C dX11_statement_58 (by decide) ?_
        refine a_sub (lv' := [(0, .ref (L o))]) [0] rfl ?_
        exact c_X11_statement_161 C hr hlocks hE ho  u55  h
    · replace h := h.2 hc
      refine a_aload_n C dX11_statement_36 rfl 0 rfl rfl ?_
      refine a_iload_n C dX11_statement_37 rfl 1 rfl rfl ?_
      refine a_callVV C (c_X11_readHouse l G cy L E hE u30 o v9 ho _ h) ho rfl (by decide) kw_6_156 kw_6_158 kp_53 kw_1_12 kw_6_159 rfl rfl pd_X11_readHouse ⟨(Nat.le_of_ble_eq_true rfl), (Nat.le_of_ble_eq_true rfl)⟩ dX11_statement_38 rfl (Nat.le_of_ble_eq_true rfl) ⟨(Nat.le_of_ble_eq_true rfl), (Nat.le_of_ble_eq_true rfl)⟩ rfl (fun u38 h => ?_)
      refine a_goto (tgt := 161) C dX11_statement_41 (by decide) ?_
      refine a_sub (lv' := [(0, .ref (L o))]) [0] rfl ?_
      exact c_X11_statement_161 C hr hlocks hE ho  u38  h
  · replace h := h.2 hc
    refine a_aload_n C dX11_statement_19 rfl 0 rfl rfl ?_
    refine a_iload_n C dX11_statement_20 rfl 1 rfl rfl ?_
    refine a_callVV C (c_X11_readStreet l G cy L E hE u13 o v9 ho _ h) ho rfl (by decide) kw_6_148 kw_6_150 kp_52 kw_1_12 kw_6_151 rfl rfl pd_X11_readStreet ⟨(Nat.le_of_ble_eq_true rfl), (Nat.le_of_ble_eq_true rfl)⟩ dX11_statement_21 rfl (Nat.le_of_ble_eq_true rfl) ⟨(Nat.le_of_ble_eq_true rfl), (Nat.le_of_ble_eq_true rfl)⟩ rfl (fun u21 h => ?_)
    refine a_goto (tgt := 161) C dX11_statement_24 (by decide) ?_
    refine a_sub (lv' := [(0, .ref (L o))]) [0] rfl ?_
    exact c_X11_statement_161 C hr hlocks hE ho  u21  h

/-! CensusWalkModel.load(I)I -/
theorem pd_X11_load : (⟨"CensusWalkModel", "load", "(I)I"⟩ : MethodName).cls = "CensusWalkModel" ∧ (⟨"CensusWalkModel", "load", "(I)I"⟩ : MethodName).cls ≠ "java/lang/invoke/MethodHandle" ∧ (⟨"CensusWalkModel", "load", "(I)I"⟩ : MethodName).cls ≠ "java/lang/invoke/VarHandle" ∧ (parseMethodDescriptor (⟨"CensusWalkModel", "load", "(I)I"⟩ : MethodName).desc).map (fun d => d.parameters.length) = some 1 := by decide +kernel
def wp_X11_load_157 (E : ms_En) (o : Nat) (a1 : Int32) (post : Int32 → ms_St → Prop)  (u : ms_St)  : Prop := wp_X11_isGood E (ms_sI u o 7 (ms_I u o 6)) o (fun r166 u166 => (r166 = 0 → post (ms_I u166 o 5) u166) ∧ (¬ r166 = 0 → wp_X11_remember E u166 o (fun u178 => wp_X11_copy E u178 (ms_at E o 9) (ms_at E o 8) (fun u189 => vp_in 2 1613 ∧ (post (ms_I u189 (ms_at E o 8) (Int32.toNatClampNeg 2)) u189)))))
set_option maxHeartbeats 4000000 in
set_option maxRecDepth 100000 in
theorem c_X11_load_157 {p : Program} {l : Launch} {e : Env} {s : State} {m : MethodId} {args : Array Value} {below : List Frame} {meth : Method} {c : Code} {G : va_G} {cy : Nat → ClassId} {A : Nat → Prop} {L : Nat → Nat} {E : ms_En} (C : ms_Cx p m c cX11_load 3 s args (Cond.code ⟨"CensusWalkModel", "load", "(I)I"⟩ prog_13_method_28_code 3 (some .int)) "CensusWalkModel" G cy A) (hr : meth.sig.returnType = (some .int)) (hlocks : meth.locks = false) (hE : ms_WT E) {o : Nat} {a1 : Int32} {post : Int32 → ms_St → Prop}  (ho : ms_is E o 11)  (u : ms_St)   (h : wp_X11_load_157 E o a1 post u ) : ms_At p l e ({ frames := 46, cells := 0, slots := 0, locals := 2482 } : Room) s m args below meth c 3 G cy A L 0 0 (ms_QI below args s G cy L E A post 0 0) E u 157 [(0, .ref (L o))] [] := by
  unfold wp_X11_load_157 at h
  refine a_aload_n C dX11_load_157 rfl 0 rfl rfl ?_
  refine a_aload_n C dX11_load_158 rfl 0 rfl rfl ?_
  refine g_11_6 C dX11_load_159 ho kw_5_228 rfl ?_
  refine s_11_7 C dX11_load_162 ho kw_5_229 rfl ?_
  refine a_aload_n C dX11_load_165 rfl 0 rfl rfl ?_
  refine a_callVI C (c_X11_isGood l G cy L E hE (ms_sI u o 7 (ms_I u o 6)) o ho _ h) ho rfl (by decide) kw_6_110 kw_6_112 kp_45 kw_1_12 kw_6_113 rfl rfl pd_X11_isGood ⟨(Nat.le_of_ble_eq_true rfl), (Nat.le_of_ble_eq_true rfl)⟩ dX11_load_166 rfl (Nat.le_of_ble_eq_true rfl) ⟨(Nat.le_of_ble_eq_true rfl), (Nat.le_of_ble_eq_true rfl)⟩ rfl (fun r166 u166 h => ?_)
  refine a_if_ne (tgt := 177) C dX11_load_169 (by decide) rfl (fun hc => ?_) (fun hc => ?_)
  · replace h := h.2 hc
    refine a_aload_n C dX11_load_177 rfl 0 rfl rfl ?_
    refine a_callVV C (c_X11_remember l G cy L E hE u166 o ho _ h) ho rfl (by decide) kw_6_197 kw_6_199 kp_60 kw_1_12 kw_6_200 rfl rfl pd_X11_remember ⟨(Nat.le_of_ble_eq_true rfl), (Nat.le_of_ble_eq_true rfl)⟩ dX11_load_178 rfl (Nat.le_of_ble_eq_true rfl) ⟨(Nat.le_of_ble_eq_true rfl), (Nat.le_of_ble_eq_true rfl)⟩ rfl (fun u178 h => ?_)
    refine a_aload_n C dX11_load_181 rfl 0 rfl rfl ?_
    refine g_11_9 C hE dX11_load_182 ho kw_5_231 rfl ?_
    have k182 : ms_is E (ms_at E o 9) 13 := ms_wt hE ho rfl (by decide)
    have n182 : ms_N E (ms_at E o 9) = 1613 := ms_wl hE ho (by decide) (by decide) rfl
    refine a_aload_n C dX11_load_185 rfl 0 rfl rfl ?_
    refine g_11_8 C hE dX11_load_186 ho kw_5_230 rfl ?_
    have k186 : ms_is E (ms_at E o 8) 13 := ms_wt hE ho rfl (by decide)
    have n186 : ms_N E (ms_at E o 8) = 1613 := ms_wl hE ho (by decide) (by decide) rfl
    refine a_callSV C (c_X11_copy l G cy L E hE u178 (ms_at E o 9) (ms_at E o 8) k182 k186 _ h) kw_6_201 kw_6_202 kw_1_12 kw_6_203 rfl rfl pd_X11_copy ⟨(Nat.le_of_ble_eq_true rfl), (Nat.le_of_ble_eq_true rfl)⟩ dX11_load_189 rfl (Nat.le_of_ble_eq_true rfl) ⟨(Nat.le_of_ble_eq_true rfl), (Nat.le_of_ble_eq_true rfl)⟩ rfl (fun u189 h => ?_)
    refine a_aload_n C dX11_load_192 rfl 0 rfl rfl ?_
    refine g_11_8 C hE dX11_load_193 ho kw_5_230 rfl ?_
    refine a_iconst (v := 2) C dX11_load_196 (by decide) rfl ?_
    obtain ⟨q197, h⟩ := h
    refine a_iald C dX11_load_197 k186 n186 q197 rfl ?_
    exact a_iret C dX11_load_198 hr hlocks (Nat.le_of_ble_eq_true rfl) (Nat.le_of_ble_eq_true rfl) h
  · replace h := h.1 hc
    refine a_aload_n C dX11_load_172 rfl 0 rfl rfl ?_
    refine g_11_5 C dX11_load_173 ho kw_5_227 rfl ?_
    exact a_iret C dX11_load_176 hr hlocks (Nat.le_of_ble_eq_true rfl) (Nat.le_of_ble_eq_true rfl) h
def wp_X11_load_135 (E : ms_En) (o : Nat) (a1 : Int32) (post : Int32 → ms_St → Prop)  : Nat → ms_St → Prop
  | 0 => fun _  => False
  | n + 1 => fun u  => wp_X11_isGood E u o (fun r136 u136 => (r136 = 0 → wp_X11_load_157 E o a1 post u136) ∧ (¬ r136 = 0 → wp_X11_next E u136 o (fun r143 u143 => (r143 = (-1) → wp_X11_load_157 E o a1 post u143) ∧ (¬ r143 = (-1) → wp_X11_statement E u143 o (fun u151 => wp_X11_load_135 E o a1 post n u151)))))
set_option maxHeartbeats 4000000 in
set_option maxRecDepth 100000 in
theorem c_X11_load_135 {p : Program} {l : Launch} {e : Env} {s : State} {m : MethodId} {args : Array Value} {below : List Frame} {meth : Method} {c : Code} {G : va_G} {cy : Nat → ClassId} {A : Nat → Prop} {L : Nat → Nat} {E : ms_En} (C : ms_Cx p m c cX11_load 3 s args (Cond.code ⟨"CensusWalkModel", "load", "(I)I"⟩ prog_13_method_28_code 3 (some .int)) "CensusWalkModel" G cy A) (hr : meth.sig.returnType = (some .int)) (hlocks : meth.locks = false) (hE : ms_WT E) {o : Nat} {a1 : Int32} {post : Int32 → ms_St → Prop}  (ho : ms_is E o 11)  : ∀ (n : Nat) (u : ms_St) , wp_X11_load_135 E o a1 post n u  → ms_At p l e ({ frames := 46, cells := 0, slots := 0, locals := 2482 } : Room) s m args below meth c 3 G cy A L 0 0 (ms_QI below args s G cy L E A post 0 0) E u 135 [(0, .ref (L o))] [] := by
  intro n
  induction n with
  | zero =>
    intro u   h
    exact absurd h id
  | succ n ih =>
    intro u   h
    unfold wp_X11_load_135 at h
    refine a_aload_n C dX11_load_135 rfl 0 rfl rfl ?_
    refine a_callVI C (c_X11_isGood l G cy L E hE u o ho _ h) ho rfl (by decide) kw_6_110 kw_6_112 kp_45 kw_1_12 kw_6_113 rfl rfl pd_X11_isGood ⟨(Nat.le_of_ble_eq_true rfl), (Nat.le_of_ble_eq_true rfl)⟩ dX11_load_136 rfl (Nat.le_of_ble_eq_true rfl) ⟨(Nat.le_of_ble_eq_true rfl), (Nat.le_of_ble_eq_true rfl)⟩ rfl (fun r136 u136 h => ?_)
    refine a_if_eq (tgt := 157) C dX11_load_139 (by decide) rfl (fun hc => ?_) (fun hc => ?_)
    · replace h := h.1 hc
      exact c_X11_load_157 C hr hlocks hE ho  u136  h
    · replace h := h.2 hc
      refine a_aload_n C dX11_load_142 rfl 0 rfl rfl ?_
      refine a_callVI C (c_X11_next l G cy L E hE u136 o ho _ h) ho rfl (by decide) kw_6_114 kw_6_116 kp_46 kw_1_12 kw_6_117 rfl rfl pd_X11_next ⟨(Nat.le_of_ble_eq_true rfl), (Nat.le_of_ble_eq_true rfl)⟩ dX11_load_143 rfl (Nat.le_of_ble_eq_true rfl) ⟨(Nat.le_of_ble_eq_true rfl), (Nat.le_of_ble_eq_true rfl)⟩ rfl (fun r143 u143 h => ?_)
      refine a_iconst (v := (-1)) C dX11_load_146 (by decide) rfl ?_
      refine a_icmp_eq (tgt := 157) C dX11_load_147 (by decide) rfl (fun hc => ?_) (fun hc => ?_)
      · replace h := h.1 hc
        exact c_X11_load_157 C hr hlocks hE ho  u143  h
      · replace h := h.2 hc
        refine a_aload_n C dX11_load_150 rfl 0 rfl rfl ?_
        refine a_callVV C (c_X11_statement l G cy L E hE u143 o ho _ h) ho rfl (by decide) kw_6_143 kw_6_145 kp_51 kw_1_12 kw_6_146 rfl rfl pd_X11_statement ⟨(Nat.le_of_ble_eq_true rfl), (Nat.le_of_ble_eq_true rfl)⟩ dX11_load_151 rfl (Nat.le_of_ble_eq_true rfl) ⟨(Nat.le_of_ble_eq_true rfl), (Nat.le_of_ble_eq_true rfl)⟩ rfl (fun u151 h => ?_)
        refine a_goto (tgt := 135) C dX11_load_154 (by decide) ?_
        exact ih u151  h
def wp_X11_load_116 (E : ms_En) (o : Nat) (a1 : Int32) (post : Int32 → ms_St → Prop)  (u : ms_St)  : Prop := wp_X11_number E u o 1 10 (fun r125 u125 => vp_in 0 1613 ∧ (wp_X11_expect E (ms_sI u125 (ms_at E o 9) (Int32.toNatClampNeg 0) r125) o 59 (fun u132 => ∃ n135, wp_X11_load_135 E o a1 post n135 u132)))
set_option maxHeartbeats 4000000 in
set_option maxRecDepth 100000 in
theorem c_X11_load_116 {p : Program} {l : Launch} {e : Env} {s : State} {m : MethodId} {args : Array Value} {below : List Frame} {meth : Method} {c : Code} {G : va_G} {cy : Nat → ClassId} {A : Nat → Prop} {L : Nat → Nat} {E : ms_En} (C : ms_Cx p m c cX11_load 3 s args (Cond.code ⟨"CensusWalkModel", "load", "(I)I"⟩ prog_13_method_28_code 3 (some .int)) "CensusWalkModel" G cy A) (hr : meth.sig.returnType = (some .int)) (hlocks : meth.locks = false) (hE : ms_WT E) {o : Nat} {a1 : Int32} {post : Int32 → ms_St → Prop}  (ho : ms_is E o 11)  (u : ms_St)   (h : wp_X11_load_116 E o a1 post u ) : ms_At p l e ({ frames := 46, cells := 0, slots := 0, locals := 2482 } : Room) s m args below meth c 3 G cy A L 0 0 (ms_QI below args s G cy L E A post 0 0) E u 116 [(0, .ref (L o))] [] := by
  unfold wp_X11_load_116 at h
  refine a_aload_n C dX11_load_116 rfl 0 rfl rfl ?_
  refine g_11_9 C hE dX11_load_117 ho kw_5_231 rfl ?_
  have k117 : ms_is E (ms_at E o 9) 13 := ms_wt hE ho rfl (by decide)
  have n117 : ms_N E (ms_at E o 9) = 1613 := ms_wl hE ho (by decide) (by decide) rfl
  refine a_iconst (v := 0) C dX11_load_120 (by decide) rfl ?_
  refine a_aload_n C dX11_load_121 rfl 0 rfl rfl ?_
  refine a_iconst (v := 1) C dX11_load_122 (by decide) rfl ?_
  refine a_bipush (v := 10) C dX11_load_123 (by decide) rfl ?_
  refine a_callVI C (c_X11_number l G cy L E hE u o 1 10 ho _ h) ho rfl (by decide) kw_6_128 kw_6_130 kp_49 kw_1_12 kw_6_131 rfl rfl pd_X11_number ⟨(Nat.le_of_ble_eq_true rfl), (Nat.le_of_ble_eq_true rfl)⟩ dX11_load_125 rfl (Nat.le_of_ble_eq_true rfl) ⟨(Nat.le_of_ble_eq_true rfl), (Nat.le_of_ble_eq_true rfl)⟩ rfl (fun r125 u125 h => ?_)
  obtain ⟨q128, h⟩ := h
  refine a_iast C dX11_load_128 k117 n117 q128 rfl ?_
  refine a_aload_n C dX11_load_129 rfl 0 rfl rfl ?_
  refine a_bipush (v := 59) C dX11_load_130 (by decide) rfl ?_
  refine a_callVV C (c_X11_expect l G cy L E hE (ms_sI u125 (ms_at E o 9) (Int32.toNatClampNeg 0) r125) o 59 ho _ h) ho rfl (by decide) kw_6_139 kw_6_141 kp_50 kw_1_12 kw_6_142 rfl rfl pd_X11_expect ⟨(Nat.le_of_ble_eq_true rfl), (Nat.le_of_ble_eq_true rfl)⟩ dX11_load_132 rfl (Nat.le_of_ble_eq_true rfl) ⟨(Nat.le_of_ble_eq_true rfl), (Nat.le_of_ble_eq_true rfl)⟩ rfl (fun u132 h => ?_)
  obtain ⟨n9, h⟩ := h
  exact c_X11_load_135 C hr hlocks hE ho  n9 u132  h
def wp_X11_load_69 (E : ms_En) (o : Nat) (a1 : Int32) (post : Int32 → ms_St → Prop)  : Nat → ms_St → Int32 → Prop
  | 0 => fun _ _ => False
  | n + 1 => fun u x2 => (1613 ≤ x2 → vp_in 5 1613 ∧ (wp_X11_takeWord E (ms_sI u (ms_at E o 9) (Int32.toNatClampNeg 5) 60) o 23 (fun r100 u100 => (r100 = 0 → wp_X11_report E u100 o (-2) (ms_I u100 o 4) (fun u113 => wp_X11_load_116 E o a1 post u113)) ∧ (¬ r100 = 0 → wp_X11_load_116 E o a1 post u100)))) ∧ (¬ 1613 ≤ x2 → vp_in x2 1613 ∧ (wp_X11_load_69 E o a1 post n (ms_sI u (ms_at E o 9) (Int32.toNatClampNeg x2) 0) (x2 + 1)))
set_option maxHeartbeats 4000000 in
set_option maxRecDepth 100000 in
theorem c_X11_load_69 {p : Program} {l : Launch} {e : Env} {s : State} {m : MethodId} {args : Array Value} {below : List Frame} {meth : Method} {c : Code} {G : va_G} {cy : Nat → ClassId} {A : Nat → Prop} {L : Nat → Nat} {E : ms_En} (C : ms_Cx p m c cX11_load 3 s args (Cond.code ⟨"CensusWalkModel", "load", "(I)I"⟩ prog_13_method_28_code 3 (some .int)) "CensusWalkModel" G cy A) (hr : meth.sig.returnType = (some .int)) (hlocks : meth.locks = false) (hE : ms_WT E) {o : Nat} {a1 : Int32} {post : Int32 → ms_St → Prop}  (ho : ms_is E o 11)  : ∀ (n : Nat) (u : ms_St) (x2 : Int32), wp_X11_load_69 E o a1 post n u x2 → ms_At p l e ({ frames := 46, cells := 0, slots := 0, locals := 2482 } : Room) s m args below meth c 3 G cy A L 0 0 (ms_QI below args s G cy L E A post 0 0) E u 69 [(0, .ref (L o)), (2, .int x2)] [] := by
  intro n
  induction n with
  | zero =>
    intro u x2  h
    exact absurd h id
  | succ n ih =>
    intro u x2  h
    unfold wp_X11_load_69 at h
    refine a_iload_n C dX11_load_69 rfl 1 rfl rfl ?_
    refine a_sipush (v := 1613) C dX11_load_70 (by decide) rfl ?_
    refine a_icmp_ge (tgt := 89) C dX11_load_73 (by decide) rfl (fun hc => ?_) (fun hc => ?_)
    · replace h := h.1 hc
      refine a_aload_n C dX11_load_89 rfl 0 rfl rfl ?_
      refine g_11_9 C hE dX11_load_90 ho kw_5_231 rfl ?_
      have k90 : ms_is E (ms_at E o 9) 13 := ms_wt hE ho rfl (by decide)
      have n90 : ms_N E (ms_at E o 9) = 1613 := ms_wl hE ho (by decide) (by decide) rfl
      refine a_iconst (v := 5) C dX11_load_93 (by decide) rfl ?_
      refine a_bipush (v := 60) C dX11_load_94 (by decide) rfl ?_
      obtain ⟨q96, h⟩ := h
      refine a_iast C dX11_load_96 k90 n90 q96 rfl ?_
      refine a_aload_n C dX11_load_97 rfl 0 rfl rfl ?_
      refine a_ldcS (j := 23) C dX11_load_98 rfl rfl rfl rfl ?_
      refine a_callVI C (c_X11_takeWord l G cy L E hE (ms_sI u (ms_at E o 9) (Int32.toNatClampNeg 5) 60) o 23 ho (by decide) _ h) ho rfl (by decide) kw_6_106 kw_6_108 kp_44 kw_1_12 kw_6_109 rfl rfl pd_X11_takeWord ⟨(Nat.le_of_ble_eq_true rfl), (Nat.le_of_ble_eq_true rfl)⟩ dX11_load_100 rfl (Nat.le_of_ble_eq_true rfl) ⟨(Nat.le_of_ble_eq_true rfl), (Nat.le_of_ble_eq_true rfl)⟩ rfl (fun r100 u100 h => ?_)
      refine a_if_ne (tgt := 116) C dX11_load_103 (by decide) rfl (fun hc => ?_) (fun hc => ?_)
      · replace h := h.2 hc
        refine a_sub (lv' := [(0, .ref (L o))]) [0] rfl ?_
        exact c_X11_load_116 C hr hlocks hE ho  u100  h
      · replace h := h.1 hc
        refine a_aload_n C dX11_load_106 rfl 0 rfl rfl ?_
        refine a_bipush (v := (-2)) C dX11_load_107 (by decide) rfl ?_
        refine a_aload_n C dX11_load_109 rfl 0 rfl rfl ?_
        refine g_11_4 C dX11_load_110 ho kw_5_226 rfl ?_
        refine a_callVV C (c_X11_report l G cy L E hE u100 o (-2) (ms_I u100 o 4) ho _ h) ho rfl (by decide) kw_6_124 kw_6_126 kp_48 kw_1_12 kw_6_127 rfl rfl pd_X11_report ⟨(Nat.le_of_ble_eq_true rfl), (Nat.le_of_ble_eq_true rfl)⟩ dX11_load_113 rfl (Nat.le_of_ble_eq_true rfl) ⟨(Nat.le_of_ble_eq_true rfl), (Nat.le_of_ble_eq_true rfl)⟩ rfl (fun u113 h => ?_)
        refine a_sub (lv' := [(0, .ref (L o))]) [0] rfl ?_
        exact c_X11_load_116 C hr hlocks hE ho  u113  h
    · replace h := h.2 hc
      refine a_aload_n C dX11_load_76 rfl 0 rfl rfl ?_
      refine g_11_9 C hE dX11_load_77 ho kw_5_231 rfl ?_
      have k77 : ms_is E (ms_at E o 9) 13 := ms_wt hE ho rfl (by decide)
      have n77 : ms_N E (ms_at E o 9) = 1613 := ms_wl hE ho (by decide) (by decide) rfl
      refine a_iload_n C dX11_load_80 rfl 1 rfl rfl ?_
      refine a_iconst (v := 0) C dX11_load_81 (by decide) rfl ?_
      obtain ⟨q82, h⟩ := h
      refine a_iast C dX11_load_82 k77 n77 q82 rfl ?_
      refine a_iinc (lv' := [(0, .ref (L o)), (2, .int (x2 + 1))]) (v := (x2 + 1)) C dX11_load_83 1 rfl (congrArg (fun z => x2 + z) (by decide)) (by decide) [1, 0] rfl rfl ?_
      refine a_goto (tgt := 69) C dX11_load_86 (by decide) ?_
      exact ih (ms_sI u (ms_at E o 9) (Int32.toNatClampNeg x2) 0) (x2 + 1)  h
def wp_X11_load_23 (E : ms_En) (o : Nat) (a1 : Int32) (post : Int32 → ms_St → Prop)  (u : ms_St) (z0 : Int32) (z1 : Nat) : Prop := wp_X11_fails E u z1 z0 1 (fun r24 u24 => (r24 = 0 → ∀ w59 : ms_St, w59 = (ms_sI (ms_sI (ms_sI (ms_sI (ms_sI (ms_sI u24 o 2 0) o 3 a1) o 4 0) o 5 0) o 6 (-1)) o 13 0) → (∃ n69, wp_X11_load_69 E o a1 post n69 (ms_sI w59 o 14 0) 0)) ∧ (¬ r24 = 0 → post 0 u24))
set_option maxHeartbeats 4000000 in
set_option maxRecDepth 100000 in
theorem c_X11_load_23 {p : Program} {l : Launch} {e : Env} {s : State} {m : MethodId} {args : Array Value} {below : List Frame} {meth : Method} {c : Code} {G : va_G} {cy : Nat → ClassId} {A : Nat → Prop} {L : Nat → Nat} {E : ms_En} (C : ms_Cx p m c cX11_load 3 s args (Cond.code ⟨"CensusWalkModel", "load", "(I)I"⟩ prog_13_method_28_code 3 (some .int)) "CensusWalkModel" G cy A) (hr : meth.sig.returnType = (some .int)) (hlocks : meth.locks = false) (hE : ms_WT E) {o : Nat} {a1 : Int32} {post : Int32 → ms_St → Prop}  (ho : ms_is E o 11)  (u : ms_St) (z0 : Int32) (z1 : Nat) (k_z1 : ms_is E z1 11) (h : wp_X11_load_23 E o a1 post u z0 z1) : ms_At p l e ({ frames := 46, cells := 0, slots := 0, locals := 2482 } : Room) s m args below meth c 3 G cy A L 0 0 (ms_QI below args s G cy L E A post 0 0) E u 23 [(0, .ref (L o)), (1, .int a1)] [.int z0, .ref (L z1)] := by
  unfold wp_X11_load_23 at h
  refine a_iconst (v := 1) C dX11_load_23 (by decide) rfl ?_
  refine a_callVI C (c_X11_fails l G cy L E hE u z1 z0 1 k_z1 _ h) k_z1 rfl (by decide) kw_6_101 kw_6_103 kp_43 kw_1_12 kw_6_104 rfl rfl pd_X11_fails ⟨(Nat.le_of_ble_eq_true rfl), (Nat.le_of_ble_eq_true rfl)⟩ dX11_load_24 rfl (Nat.le_of_ble_eq_true rfl) ⟨(Nat.le_of_ble_eq_true rfl), (Nat.le_of_ble_eq_true rfl)⟩ rfl (fun r24 u24 h => ?_)
  refine a_if_eq (tgt := 32) C dX11_load_27 (by decide) rfl (fun hc => ?_) (fun hc => ?_)
  · replace h := h.1 hc
    refine a_aload_n C dX11_load_32 rfl 0 rfl rfl ?_
    refine a_iconst (v := 0) C dX11_load_33 (by decide) rfl ?_
    refine s_11_2 C dX11_load_34 ho kw_5_224 rfl ?_
    refine a_aload_n C dX11_load_37 rfl 0 rfl rfl ?_
    refine a_iload_n C dX11_load_38 rfl 1 rfl rfl ?_
    refine s_11_3 C dX11_load_39 ho kw_5_225 rfl ?_
    refine a_aload_n C dX11_load_42 rfl 0 rfl rfl ?_
    refine a_iconst (v := 0) C dX11_load_43 (by decide) rfl ?_
    refine s_11_4 C dX11_load_44 ho kw_5_226 rfl ?_
    refine a_aload_n C dX11_load_47 rfl 0 rfl rfl ?_
    refine a_iconst (v := 0) C dX11_load_48 (by decide) rfl ?_
    refine s_11_5 C dX11_load_49 ho kw_5_227 rfl ?_
    refine a_aload_n C dX11_load_52 rfl 0 rfl rfl ?_
    refine a_iconst (v := (-1)) C dX11_load_53 (by decide) rfl ?_
    refine s_11_6 C dX11_load_54 ho kw_5_228 rfl ?_
    refine a_aload_n C dX11_load_57 rfl 0 rfl rfl ?_
    refine a_iconst (v := 0) C dX11_load_58 (by decide) rfl ?_
    refine s_11_13 C dX11_load_59 ho kw_5_235 rfl ?_
    refine a_nmU (fun w59 e59 => ?_)
    replace h := h w59 e59
    refine a_aload_n C dX11_load_62 rfl 0 rfl rfl ?_
    refine a_iconst (v := 0) C dX11_load_63 (by decide) rfl ?_
    refine s_11_14 C dX11_load_64 ho kw_5_236 rfl ?_
    refine a_iconst (v := 0) C dX11_load_67 (by decide) rfl ?_
    refine a_istore_n (lv' := [(0, .ref (L o)), (1, .int a1), (2, .int 0)]) C dX11_load_68 rfl (by decide) [1, 2, 0] rfl rfl ?_
    refine a_sub (lv' := [(0, .ref (L o)), (2, .int 0)]) [0, 2] rfl ?_
    obtain ⟨n9, h⟩ := h
    exact c_X11_load_69 C hr hlocks hE ho  n9 (ms_sI w59 o 14 0) 0  h
  · replace h := h.2 hc
    refine a_iconst (v := 0) C dX11_load_30 (by decide) rfl ?_
    exact a_iret C dX11_load_31 hr hlocks (Nat.le_of_ble_eq_true rfl) (Nat.le_of_ble_eq_true rfl) h
def wp_X11_load (E : ms_En) (u : ms_St) (o : Nat) (a1 : Int32) (post : Int32 → ms_St → Prop) : Prop := wp_X11_in E (ms_sI u o 0 0) a1 0 (ms_I (ms_sI u o 0 0) o 2) (fun r12 u12 => (r12 = 0 → wp_X11_load_23 E o a1 post u12 1 o) ∧ (¬ r12 = 0 → wp_X11_load_23 E o a1 post u12 0 o))
set_option maxHeartbeats 4000000 in
set_option maxRecDepth 100000 in
theorem c_X11_load (l : Launch) (G : va_G) (cy : Nat → ClassId) (L : Nat → Nat) (E : ms_En) (hE : ms_WT E) (u : ms_St) (o : Nat) (a1 : Int32) (ho : ms_is E o 11) (post : Int32 → ms_St → Prop) (h : wp_X11_load E u o a1 post) : ms_MetI l ⟨"CensusWalkModel", "load", "(I)I"⟩ (Cond.code ⟨"CensusWalkModel", "load", "(I)I"⟩ prog_13_method_28_code 3 (some .int) :: lw_g) ({ frames := 46, cells := 0, slots := 0, locals := 2482 } : Room) G cy L E [.ref (L o), .int a1] u post 0 0 := by
  refine ms_enterI (lv := [(0, .ref (L o)), (1, .int a1)]) (by decide) (Nat.le_of_ble_eq_true rfl) rfl ?_
  intro p e s m args below meth c A C hr hlocks
  unfold wp_X11_load at h
  refine a_aload_n C dX11_load_0 rfl 0 rfl rfl ?_
  refine a_iconst (v := 0) C dX11_load_1 (by decide) rfl ?_
  refine s_11_0 C dX11_load_2 ho kw_5_222 rfl ?_
  refine a_aload_n C dX11_load_5 rfl 0 rfl rfl ?_
  refine a_iload_n C dX11_load_6 rfl 1 rfl rfl ?_
  refine a_iconst (v := 0) C dX11_load_7 (by decide) rfl ?_
  refine a_aload_n C dX11_load_8 rfl 0 rfl rfl ?_
  refine g_11_2 C dX11_load_9 ho kw_5_224 rfl ?_
  refine a_callSI C (c_X11_in l G cy L E hE (ms_sI u o 0 0) a1 0 (ms_I (ms_sI u o 0 0) o 2)  _ h) kw_6_98 kw_6_99 kw_1_12 kw_6_100 rfl rfl pd_X11_in ⟨(Nat.le_of_ble_eq_true rfl), (Nat.le_of_ble_eq_true rfl)⟩ dX11_load_12 rfl (Nat.le_of_ble_eq_true rfl) ⟨(Nat.le_of_ble_eq_true rfl), (Nat.le_of_ble_eq_true rfl)⟩ rfl (fun r12 u12 h => ?_)
  refine a_if_ne (tgt := 22) C dX11_load_15 (by decide) rfl (fun hc => ?_) (fun hc => ?_)
  · replace h := h.2 hc
    refine a_iconst (v := 0) C dX11_load_22 (by decide) rfl ?_
    exact c_X11_load_23 C hr hlocks hE ho  u12 0 o ho h
  · replace h := h.1 hc
    refine a_iconst (v := 1) C dX11_load_18 (by decide) rfl ?_
    refine a_goto (tgt := 23) C dX11_load_19 (by decide) ?_
    exact c_X11_load_23 C hr hlocks hE ho  u12 1 o ho h
