theorem pd_X2_giveFrom : (⟨"CensusWalk$Search", "giveFrom", "(I)V"⟩ : MethodName).cls = "CensusWalk$Search" ∧ (⟨"CensusWalk$Search", "giveFrom", "(I)V"⟩ : MethodName).cls ≠ "java/lang/invoke/MethodHandle" ∧ (⟨"CensusWalk$Search", "giveFrom", "(I)V"⟩ : MethodName).cls ≠ "java/lang/invoke/VarHandle" ∧ (parseMethodDescriptor (⟨"CensusWalk$Search", "giveFrom", "(I)V"⟩ : MethodName).desc).map (fun d => d.parameters.length) = some 1 := by decide +kernel
/-! CensusWalk$Search.giveFrom(I)V -/
def wp_X2_giveFrom_15 (E : ms_En) (rec : ms_St → Nat → Int32 → (ms_St → Prop) → Prop) (o : Nat) (a1 : Int32) (post : ms_St → Prop)  : Nat → ms_St → Int32 → Prop
  | 0 => fun _ _ => False
  | n + 1 => fun u x2 => ((ms_I u o 15) ≤ x2 → post u) ∧ (¬ (ms_I u o 15) ≤ x2 → vp_in x2 3 ∧ (vp_in x2 3 ∧ (∀ w34 : ms_St, w34 = (ms_sI u (ms_at E o 13) (Int32.toNatClampNeg x2) ((ms_I u (ms_at E o 13) (Int32.toNatClampNeg x2)) ||| (1 <<< (a1 &&& 31)))) → (rec w34 o (a1 + 1) (fun u39 => vp_in x2 3 ∧ (vp_in x2 3 ∧ (∀ w53 : ms_St, w53 = (ms_sI u39 (ms_at E o 13) (Int32.toNatClampNeg x2) ((ms_I u39 (ms_at E o 13) (Int32.toNatClampNeg x2)) ^^^ (1 <<< (a1 &&& 31)))) → (wp_X2_giveFrom_15 E rec o a1 post n w53 (x2 + 1)))))))))
set_option maxHeartbeats 4000000 in
set_option maxRecDepth 100000 in
theorem c_X2_giveFrom_15 {p : Program} {l : Launch} {e : Env} {s : State} {m : MethodId} {args : Array Value} {below : List Frame} {meth : Method} {c : Code} {G : va_G} {cy : Nat → ClassId} {A : Nat → Prop} {L : Nat → Nat} {E : ms_En} (C : ms_Cx p m c cX2_giveFrom 3 s args (Cond.code ⟨"CensusWalk$Search", "giveFrom", "(I)V"⟩ prog_4_method_18_code 3 none) "CensusWalk$Search" G cy A) (hr : meth.sig.returnType = none) (hlocks : meth.locks = false) (hE : ms_WT E) {d : Nat} {rec : ms_St → Nat → Int32 → (ms_St → Prop) → Prop} (hrec : ∀ (u : ms_St) (o : Nat) (a1 : Int32) (post : ms_St → Prop), ms_is E o 2 → rec u o a1 post → ms_MetV l ⟨"CensusWalk$Search", "giveFrom", "(I)V"⟩ (Cond.code ⟨"CensusWalk$Search", "giveFrom", "(I)V"⟩ prog_4_method_18_code 3 none :: lw_g) (ms_rm d 0) G cy L E [.ref (L o), .int a1] u post 0 0) {o : Nat} {a1 : Int32} {post : ms_St → Prop}  (ho : ms_is E o 2)  : ∀ (n : Nat) (u : ms_St) (x2 : Int32), wp_X2_giveFrom_15 E rec o a1 post n u x2 → ms_At p l e (ms_rm d 4) s m args below meth c 3 G cy A L 0 0 (ms_QV below args s G cy L E A post 0 0) E u 15 [(0, .ref (L o)), (1, .int a1), (2, .int x2)] [] := by
  intro n
  induction n with
  | zero =>
    intro u x2  h
    exact absurd h id
  | succ n ih =>
    intro u x2  h
    unfold wp_X2_giveFrom_15 at h
    refine a_iload_n C dX2_giveFrom_15 rfl 2 rfl rfl ?_
    refine a_aload_n C dX2_giveFrom_16 rfl 0 rfl rfl ?_
    refine g_2_15 C dX2_giveFrom_17 ho kw_2_116 rfl ?_
    refine a_icmp_ge (tgt := 60) C dX2_giveFrom_20 (by decide) rfl (fun hc => ?_) (fun hc => ?_)
    · replace h := h.1 hc
      exact a_vret C dX2_giveFrom_60 hr hlocks (Nat.le_of_ble_eq_true rfl) (Nat.le_of_ble_eq_true rfl) h
    · replace h := h.2 hc
      refine a_aload_n C dX2_giveFrom_23 rfl 0 rfl rfl ?_
      refine g_2_13 C hE dX2_giveFrom_24 ho kw_2_114 rfl ?_
      have k24 : ms_is E (ms_at E o 13) 13 := ms_wt hE ho rfl (by decide)
      have n24 : ms_N E (ms_at E o 13) = 3 := ms_wl hE ho (by decide) (by decide) rfl
      refine a_iload_n C dX2_giveFrom_27 rfl 2 rfl rfl ?_
      refine a_dup2 C dX2_giveFrom_28 rfl rfl rfl ?_
      obtain ⟨q29, h⟩ := h
      refine a_iald C dX2_giveFrom_29 k24 n24 q29 rfl ?_
      refine a_iconst (v := 1) C dX2_giveFrom_30 (by decide) rfl ?_
      refine a_iload_n C dX2_giveFrom_31 rfl 1 rfl rfl ?_
      refine a_ishl C dX2_giveFrom_32 rfl ?_
      refine a_ior C dX2_giveFrom_33 rfl ?_
      obtain ⟨q34, h⟩ := h
      refine a_iast C dX2_giveFrom_34 k24 n24 q34 rfl ?_
      refine a_nmU (fun w34 e34 => ?_)
      replace h := h w34 e34
      refine a_aload_n C dX2_giveFrom_35 rfl 0 rfl rfl ?_
      refine a_iload_n C dX2_giveFrom_36 rfl 1 rfl rfl ?_
      refine a_iconst (v := 1) C dX2_giveFrom_37 (by decide) rfl ?_
      refine a_iadd C dX2_giveFrom_38 rfl ?_
      refine a_callVV C (hrec w34 o (a1 + 1) _ ho h) ho rfl (by decide) kw_5_140 kw_5_142 kp_41 kw_1_11 kw_5_143 rfl rfl pd_X2_giveFrom ⟨(by simp only [ms_rm]; omega), (by simp only [ms_rm]; omega)⟩ dX2_giveFrom_39 rfl (Nat.le_of_ble_eq_true rfl) ⟨(Nat.le_of_ble_eq_true rfl), (Nat.le_of_ble_eq_true rfl)⟩ rfl (fun u39 h => ?_)
      refine a_aload_n C dX2_giveFrom_42 rfl 0 rfl rfl ?_
      refine g_2_13 C hE dX2_giveFrom_43 ho kw_2_114 rfl ?_
      refine a_iload_n C dX2_giveFrom_46 rfl 2 rfl rfl ?_
      refine a_dup2 C dX2_giveFrom_47 rfl rfl rfl ?_
      obtain ⟨q48, h⟩ := h
      refine a_iald C dX2_giveFrom_48 k24 n24 q48 rfl ?_
      refine a_iconst (v := 1) C dX2_giveFrom_49 (by decide) rfl ?_
      refine a_iload_n C dX2_giveFrom_50 rfl 1 rfl rfl ?_
      refine a_ishl C dX2_giveFrom_51 rfl ?_
      refine a_ixor C dX2_giveFrom_52 rfl ?_
      obtain ⟨q53, h⟩ := h
      refine a_iast C dX2_giveFrom_53 k24 n24 q53 rfl ?_
      refine a_nmU (fun w53 e53 => ?_)
      replace h := h w53 e53
      refine a_iinc (lv' := [(0, .ref (L o)), (1, .int a1), (2, .int (x2 + 1))]) (v := (x2 + 1)) C dX2_giveFrom_54 2 rfl (congrArg (fun z => x2 + z) (by decide)) (by decide) [1, 2, 0] rfl rfl ?_
      refine a_goto (tgt := 15) C dX2_giveFrom_57 (by decide) ?_
      exact ih w53 (x2 + 1)  h
def wp_X2_giveFrom (E : ms_En) (rec : ms_St → Nat → Int32 → (ms_St → Prop) → Prop) (u : ms_St) (o : Nat) (a1 : Int32) (post : ms_St → Prop) : Prop := (a1 < (ms_I u o 0) → ∃ n15, wp_X2_giveFrom_15 E rec o a1 post n15 u 0) ∧ (¬ a1 < (ms_I u o 0) → wp_X2_judgeShares E u o (fun u9 => post u9))
set_option maxHeartbeats 4000000 in
set_option maxRecDepth 100000 in
theorem c_X2_giveFrom (l : Launch) (G : va_G) (cy : Nat → ClassId) (L : Nat → Nat) (E : ms_En) (hE : ms_WT E) {d : Nat} (rec : ms_St → Nat → Int32 → (ms_St → Prop) → Prop) (hrec : ∀ (u : ms_St) (o : Nat) (a1 : Int32) (post : ms_St → Prop), ms_is E o 2 → rec u o a1 post → ms_MetV l ⟨"CensusWalk$Search", "giveFrom", "(I)V"⟩ (Cond.code ⟨"CensusWalk$Search", "giveFrom", "(I)V"⟩ prog_4_method_18_code 3 none :: lw_g) (ms_rm d 0) G cy L E [.ref (L o), .int a1] u post 0 0) (u : ms_St) (o : Nat) (a1 : Int32) (ho : ms_is E o 2) (post : ms_St → Prop) (h : wp_X2_giveFrom E rec u o a1 post) : ms_MetV l ⟨"CensusWalk$Search", "giveFrom", "(I)V"⟩ (Cond.code ⟨"CensusWalk$Search", "giveFrom", "(I)V"⟩ prog_4_method_18_code 3 none :: lw_g) (ms_rm d 4) G cy L E [.ref (L o), .int a1] u post 0 0 := by
  refine ms_enterV (lv := [(0, .ref (L o)), (1, .int a1)]) (by decide) (Nat.le_of_ble_eq_true rfl) rfl ?_
  intro p e s m args below meth c A C hr hlocks
  unfold wp_X2_giveFrom at h
  refine a_iload_n C dX2_giveFrom_0 rfl 1 rfl rfl ?_
  refine a_aload_n C dX2_giveFrom_1 rfl 0 rfl rfl ?_
  refine g_2_0 C dX2_giveFrom_2 ho kw_2_98 rfl ?_
  refine a_icmp_lt (tgt := 13) C dX2_giveFrom_5 (by decide) rfl (fun hc => ?_) (fun hc => ?_)
  · replace h := h.1 hc
    refine a_iconst (v := 0) C dX2_giveFrom_13 (by decide) rfl ?_
    refine a_istore_n (lv' := [(0, .ref (L o)), (1, .int a1), (2, .int 0)]) C dX2_giveFrom_14 rfl (by decide) [1, 2, 0] rfl rfl ?_
    obtain ⟨n9, h⟩ := h
    exact c_X2_giveFrom_15 C hr hlocks hE hrec ho  n9 u 0  h
  · replace h := h.2 hc
    refine a_aload_n C dX2_giveFrom_8 rfl 0 rfl rfl ?_
    refine a_callVV C (c_X2_judgeShares l G cy L E hE u o ho _ h) ho rfl (by decide) kw_5_144 kw_5_146 kp_42 kw_1_11 kw_5_147 rfl rfl pd_X2_judgeShares ⟨(by simp only [ms_rm]; omega), (by simp only [ms_rm]; omega)⟩ dX2_giveFrom_9 rfl (Nat.le_of_ble_eq_true rfl) ⟨(Nat.le_of_ble_eq_true rfl), (Nat.le_of_ble_eq_true rfl)⟩ rfl (fun u9 h => ?_)
    exact a_vret C dX2_giveFrom_12 hr hlocks (Nat.le_of_ble_eq_true rfl) (Nat.le_of_ble_eq_true rfl) h

def WP_X2_giveFrom (E : ms_En) : Nat → ms_St → Nat → Int32 → (ms_St → Prop) → Prop
  | 0 => fun _ _ _ _ => False
  | d + 1 => fun u o a1 post => wp_X2_giveFrom E (WP_X2_giveFrom E d) u o a1 post
theorem C_X2_giveFrom (l : Launch) (G : va_G) (cy : Nat → ClassId) (L : Nat → Nat) (E : ms_En) (hE : ms_WT E) : ∀ (d : Nat) (u : ms_St) (o : Nat) (a1 : Int32) (post : ms_St → Prop), ms_is E o 2 → WP_X2_giveFrom E d u o a1 post → ms_MetV l ⟨"CensusWalk$Search", "giveFrom", "(I)V"⟩ (Cond.code ⟨"CensusWalk$Search", "giveFrom", "(I)V"⟩ prog_4_method_18_code 3 none :: lw_g) (ms_rm d 0) G cy L E [.ref (L o), .int a1] u post 0 0 := by
  intro d
  induction d with
  | zero =>
    intro u o a1 post ho h
    exact absurd h id
  | succ d ih =>
    intro u o a1 post ho h
    rw [ms_rm_succ]
    exact c_X2_giveFrom l G cy L E hE (WP_X2_giveFrom E d) ih u o a1 ho post h
