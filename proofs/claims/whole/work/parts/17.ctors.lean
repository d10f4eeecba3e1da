theorem df_0 : ∀ j, j < 9 → defaultValue (tyX0 j) = if (ms_fT 0).getD j 0 = 0 then .int 0 else .null := by decide +kernel
theorem df_1 : ∀ j, j < 1 → defaultValue (tyX1 j) = if (ms_fT 1).getD j 0 = 0 then .int 0 else .null := by decide +kernel
theorem df_2 : ∀ j, j < 16 → defaultValue (tyX2 j) = if (ms_fT 2).getD j 0 = 0 then .int 0 else .null := by decide +kernel
theorem df_3 : ∀ j, j < 8 → defaultValue (tyX3 j) = if (ms_fT 3).getD j 0 = 0 then .int 0 else .null := by decide +kernel
theorem df_4 : ∀ j, j < 9 → defaultValue (tyX4 j) = if (ms_fT 4).getD j 0 = 0 then .int 0 else .null := by decide +kernel
theorem df_5 : ∀ j, j < 5 → defaultValue (tyX5 j) = if (ms_fT 5).getD j 0 = 0 then .int 0 else .null := by decide +kernel
theorem df_6 : ∀ j, j < 6 → defaultValue (tyX6 j) = if (ms_fT 6).getD j 0 = 0 then .int 0 else .null := by decide +kernel
theorem df_7 : ∀ j, j < 6 → defaultValue (tyX7 j) = if (ms_fT 7).getD j 0 = 0 then .int 0 else .null := by decide +kernel
theorem df_8 : ∀ j, j < 3 → defaultValue (tyX8 j) = if (ms_fT 8).getD j 0 = 0 then .int 0 else .null := by decide +kernel
theorem df_9 : ∀ j, j < 5 → defaultValue (tyX9 j) = if (ms_fT 9).getD j 0 = 0 then .int 0 else .null := by decide +kernel
theorem df_10 : ∀ j, j < 13 → defaultValue (tyX10 j) = if (ms_fT 10).getD j 0 = 0 then .int 0 else .null := by decide +kernel
theorem df_11 : ∀ j, j < 34 → defaultValue (tyX11 j) = if (ms_fT 11).getD j 0 = 0 then .int 0 else .null := by decide +kernel
/-! the constructor of CensusWalk$Streets -/
theorem pd_X5_init : (⟨"CensusWalk$Streets", "<init>", "()V"⟩ : MethodName).cls ≠ "java/lang/invoke/MethodHandle" ∧ (⟨"CensusWalk$Streets", "<init>", "()V"⟩ : MethodName).cls ≠ "java/lang/invoke/VarHandle" ∧ (parseMethodDescriptor (⟨"CensusWalk$Streets", "<init>", "()V"⟩ : MethodName).desc).map (fun d => d.parameters.length) = some 0 := by decide +kernel
def cs_X5 (n : Nat) : List ms_Ce := (5, 0, (va_up (va_up (va_up (va_up (fun _ => none) 1 (some (n + 1))) 2 (some (n + 2))) 3 (some (n + 3))) 4 (some (n + 4)))) :: ([(13, 12, fun _ => none)] ++ ([(13, 12, fun _ => none)] ++ ([(13, 12, fun _ => none)] ++ ([(15, 12, fun _ => none)]))))
def fu_X5 (u : ms_St) (n : Nat) : ms_St := (ms_sI u n 0 0)
theorem fz_X5 {n : Nat} {u : ms_St} (h : ms_zz (n + 1) u) : ms_zz (n + 5) (fu_X5 u n) := by
  unfold fu_X5
  replace h := ms_zz_sI (k := 0) (v := 0) h (show n < _ by omega)
  exact ms_zz_le h (by omega)
set_option maxHeartbeats 4000000 in
set_option maxRecDepth 100000 in
theorem ci_X5 (l : Launch) (G : va_G) (cy : Nat → ClassId) (L : Nat → Nat) (lp : List ms_Ce) (n : Nat) (hn : lp.length = n) (u : ms_St) (hz : ms_zz (n + 1) u) : ms_MetC l ⟨"CensusWalk$Streets", "<init>", "()V"⟩ (Cond.code ⟨"CensusWalk$Streets", "<init>", "()V"⟩ prog_7_method_1_code 1 none :: lw_g) ({ frames := 1, cells := 4, slots := 48, locals := 40 } : Room) G cy L (ms_of (lp ++ [(5, 0, fun _ => none)])) [.ref (L n)] u (ms_of (lp ++ cs_X5 n)) (fu_X5 u n) 4 48 := by
  refine ms_enterC (lv := [(0, .ref (L n))]) (by decide) rfl (Nat.le_of_ble_eq_true rfl) rfl ?_
  intro p e s m args below meth c A C hr hlocks hin2
  have hL : ∀ i, i < n + 1 → L i = L i := fun _ _ => rfl
  refine a_aload_n C dX5_init_0 rfl 0 rfl rfl ?_
  refine a_obj C kw_1_46 kw_1_33 kw_1_34 dX5_init_1 (Nat.le_of_ble_eq_true rfl) (Nat.le_of_ble_eq_true rfl) rfl ?_
  refine a_aload_n C dX5_init_4 rfl 0 rfl rfl ?_
  refine a_iconst (v := 0) C dX5_init_5 (by decide) rfl ?_
  refine s_5_0 C dX5_init_6 (ms_oat hn) kw_1_47 rfl ?_
  have hz := ms_zz_sI (k := 0) (v := 0) hz (show n < _ by omega)
  refine a_aload_n C dX5_init_9 rfl 0 rfl rfl ?_
  refine a_bipush (v := 12) C dX5_init_10 (by decide) rfl ?_
  refine b_newI (N' := 12) (n0 := n + 1) (l1 := lp ++ (5, 0, (fun _ => none)) :: ([(13, 12, fun _ => none)])) (lvf := fun L => [(0, .ref (L n))]) (stf := fun L => [.ref (L n)]) C (by rw [List.length_append, List.length_cons, hn]; rfl) (by simp) kw_1_74 hz (by decide) (by decide) (Nat.le_of_ble_eq_true rfl) (Nat.le_of_ble_eq_true rfl) (Nat.le_of_ble_eq_true rfl) dX5_init_12 (fun L' g => by rw [g n (by omega)]) (fun L' g => by rw [g n (by omega)]) rfl (fun L1 g1 => ?_)
  have hL : ∀ i, i < n + 1 → L1 i = L i := fun i hi => (g1 i (by omega)).trans (hL i hi)
  have hz := ms_zz_le hz (Nat.le_succ _)
  refine b_putC (ci := 5) (k := 1) (b := (n + 1)) C in5 rfl (by decide) tyX5 tyX5_ok nmX5 hn dX5_init_14 (by decide) (by decide) rfl kw_1_52 rfl hin2 rfl (tyX5_ok 1 (by decide)) rfl rfl (by show _ < n + 1 + _; exact Nat.lt_of_lt_of_le (show (n + 1) < n + 1 + 1 by omega) (Nat.le_refl _)) rfl ?_
  refine a_aload_n C dX5_init_17 rfl 0 rfl rfl ?_
  refine a_bipush (v := 12) C dX5_init_18 (by decide) rfl ?_
  refine b_newI (N' := 12) (n0 := n + 2) (l1 := lp ++ (5, 0, (va_up (fun _ => none) 1 (some (n + 1)))) :: ([(13, 12, fun _ => none)] ++ ([(13, 12, fun _ => none)]))) (lvf := fun L => [(0, .ref (L n))]) (stf := fun L => [.ref (L n)]) C (by rw [List.length_append, List.length_cons, hn]; rfl) (by simp) kw_1_74 hz (by decide) (by decide) (Nat.le_of_ble_eq_true rfl) (Nat.le_of_ble_eq_true rfl) (Nat.le_of_ble_eq_true rfl) dX5_init_20 (fun L' g => by rw [g n (by omega)]) (fun L' g => by rw [g n (by omega)]) rfl (fun L2 g2 => ?_)
  have hL : ∀ i, i < n + 1 → L2 i = L i := fun i hi => (g2 i (by omega)).trans (hL i hi)
  have hz := ms_zz_le hz (Nat.le_succ _)
  refine b_putC (ci := 5) (k := 2) (b := (n + 2)) C in5 rfl (by decide) tyX5 tyX5_ok nmX5 hn dX5_init_22 (by decide) (by decide) rfl kw_1_54 rfl hin2 rfl (tyX5_ok 2 (by decide)) rfl rfl (by show _ < n + 1 + _; exact Nat.lt_of_lt_of_le (show (n + 2) < n + 1 + 2 by omega) (Nat.le_refl _)) rfl ?_
  refine a_aload_n C dX5_init_25 rfl 0 rfl rfl ?_
  refine a_bipush (v := 12) C dX5_init_26 (by decide) rfl ?_
  refine b_newI (N' := 12) (n0 := n + 3) (l1 := lp ++ (5, 0, (va_up (va_up (fun _ => none) 1 (some (n + 1))) 2 (some (n + 2)))) :: ([(13, 12, fun _ => none)] ++ ([(13, 12, fun _ => none)] ++ ([(13, 12, fun _ => none)])))) (lvf := fun L => [(0, .ref (L n))]) (stf := fun L => [.ref (L n)]) C (by rw [List.length_append, List.length_cons, hn]; rfl) (by simp) kw_1_74 hz (by decide) (by decide) (Nat.le_of_ble_eq_true rfl) (Nat.le_of_ble_eq_true rfl) (Nat.le_of_ble_eq_true rfl) dX5_init_28 (fun L' g => by rw [g n (by omega)]) (fun L' g => by rw [g n (by omega)]) rfl (fun L3 g3 => ?_)
  have hL : ∀ i, i < n + 1 → L3 i = L i := fun i hi => (g3 i (by omega)).trans (hL i hi)
  have hz := ms_zz_le hz (Nat.le_succ _)
  refine b_putC (ci := 5) (k := 3) (b := (n + 3)) C in5 rfl (by decide) tyX5 tyX5_ok nmX5 hn dX5_init_30 (by decide) (by decide) rfl kw_1_56 rfl hin2 rfl (tyX5_ok 3 (by decide)) rfl rfl (by show _ < n + 1 + _; exact Nat.lt_of_lt_of_le (show (n + 3) < n + 1 + 3 by omega) (Nat.le_refl _)) rfl ?_
  refine a_aload_n C dX5_init_33 rfl 0 rfl rfl ?_
  refine a_bipush (v := 12) C dX5_init_34 (by decide) rfl ?_
  refine b_newZ (N' := 12) (n0 := n + 4) (l1 := lp ++ (5, 0, (va_up (va_up (va_up (fun _ => none) 1 (some (n + 1))) 2 (some (n + 2))) 3 (some (n + 3)))) :: ([(13, 12, fun _ => none)] ++ ([(13, 12, fun _ => none)] ++ ([(13, 12, fun _ => none)] ++ ([(15, 12, fun _ => none)]))))) (lvf := fun L => [(0, .ref (L n))]) (stf := fun L => [.ref (L n)]) C (by rw [List.length_append, List.length_cons, hn]; rfl) (by simp) kw_1_75 hz (by decide) (by decide) (Nat.le_of_ble_eq_true rfl) (Nat.le_of_ble_eq_true rfl) (Nat.le_of_ble_eq_true rfl) dX5_init_36 (fun L' g => by rw [g n (by omega)]) (fun L' g => by rw [g n (by omega)]) rfl (fun L4 g4 => ?_)
  have hL : ∀ i, i < n + 1 → L4 i = L i := fun i hi => (g4 i (by omega)).trans (hL i hi)
  have hz := ms_zz_le hz (Nat.le_succ _)
  refine b_putC (ci := 5) (k := 4) (b := (n + 4)) C in5 rfl (by decide) tyX5 tyX5_ok nmX5 hn dX5_init_38 (by decide) (by decide) rfl kw_1_59 rfl hin2 rfl (tyX5_ok 4 (by decide)) rfl rfl (by show _ < n + 1 + _; exact Nat.lt_of_lt_of_le (show (n + 4) < n + 1 + 4 by omega) (Nat.le_refl _)) rfl ?_
  exact a_cret C dX5_init_41 hr hlocks (Nat.le_of_ble_eq_true rfl) (Nat.le_of_ble_eq_true rfl) rfl rfl (by rw [ms_of_Z, List.length_append, hn]; exact hL)

/-! the constructor of CensusWalk$Houses -/
theorem pd_X0_init : (⟨"CensusWalk$Houses", "<init>", "()V"⟩ : MethodName).cls ≠ "java/lang/invoke/MethodHandle" ∧ (⟨"CensusWalk$Houses", "<init>", "()V"⟩ : MethodName).cls ≠ "java/lang/invoke/VarHandle" ∧ (parseMethodDescriptor (⟨"CensusWalk$Houses", "<init>", "()V"⟩ : MethodName).desc).map (fun d => d.parameters.length) = some 0 := by decide +kernel
def cs_X0 (n : Nat) : List ms_Ce := (0, 0, (va_up (va_up (va_up (va_up (va_up (va_up (va_up (va_up (fun _ => none) 1 (some (n + 1))) 2 (some (n + 2))) 3 (some (n + 3))) 4 (some (n + 4))) 5 (some (n + 5))) 6 (some (n + 6))) 7 (some (n + 7))) 8 (some (n + 8)))) :: ([(13, 16, fun _ => none)] ++ ([(13, 16, fun _ => none)] ++ ([(13, 16, fun _ => none)] ++ ([(13, 16, fun _ => none)] ++ ([(13, 16, fun _ => none)] ++ ([(13, 16, fun _ => none)] ++ ([(15, 16, fun _ => none)] ++ ([(13, 64, fun _ => none)]))))))))
def fu_X0 (u : ms_St) (n : Nat) : ms_St := (ms_sI u n 0 0)
theorem fz_X0 {n : Nat} {u : ms_St} (h : ms_zz (n + 1) u) : ms_zz (n + 9) (fu_X0 u n) := by
  unfold fu_X0
  replace h := ms_zz_sI (k := 0) (v := 0) h (show n < _ by omega)
  exact ms_zz_le h (by omega)
set_option maxHeartbeats 4000000 in
set_option maxRecDepth 100000 in
theorem ci_X0 (l : Launch) (G : va_G) (cy : Nat → ClassId) (L : Nat → Nat) (lp : List ms_Ce) (n : Nat) (hn : lp.length = n) (u : ms_St) (hz : ms_zz (n + 1) u) : ms_MetC l ⟨"CensusWalk$Houses", "<init>", "()V"⟩ (Cond.code ⟨"CensusWalk$Houses", "<init>", "()V"⟩ prog_2_method_1_code 1 none :: lw_g) ({ frames := 1, cells := 8, slots := 176, locals := 40 } : Room) G cy L (ms_of (lp ++ [(0, 0, fun _ => none)])) [.ref (L n)] u (ms_of (lp ++ cs_X0 n)) (fu_X0 u n) 8 176 := by
  refine ms_enterC (lv := [(0, .ref (L n))]) (by decide) rfl (Nat.le_of_ble_eq_true rfl) rfl ?_
  intro p e s m args below meth c A C hr hlocks hin2
  have hL : ∀ i, i < n + 1 → L i = L i := fun _ _ => rfl
  refine a_aload_n C dX0_init_0 rfl 0 rfl rfl ?_
  refine a_obj C kw_1_81 kw_1_33 kw_1_34 dX0_init_1 (Nat.le_of_ble_eq_true rfl) (Nat.le_of_ble_eq_true rfl) rfl ?_
  refine a_aload_n C dX0_init_4 rfl 0 rfl rfl ?_
  refine a_iconst (v := 0) C dX0_init_5 (by decide) rfl ?_
  refine s_0_0 C dX0_init_6 (ms_oat hn) kw_1_82 rfl ?_
  have hz := ms_zz_sI (k := 0) (v := 0) hz (show n < _ by omega)
  refine a_aload_n C dX0_init_9 rfl 0 rfl rfl ?_
  refine a_bipush (v := 16) C dX0_init_10 (by decide) rfl ?_
  refine b_newI (N' := 16) (n0 := n + 1) (l1 := lp ++ (0, 0, (fun _ => none)) :: ([(13, 16, fun _ => none)])) (lvf := fun L => [(0, .ref (L n))]) (stf := fun L => [.ref (L n)]) C (by rw [List.length_append, List.length_cons, hn]; rfl) (by simp) kw_1_74 hz (by decide) (by decide) (Nat.le_of_ble_eq_true rfl) (Nat.le_of_ble_eq_true rfl) (Nat.le_of_ble_eq_true rfl) dX0_init_12 (fun L' g => by rw [g n (by omega)]) (fun L' g => by rw [g n (by omega)]) rfl (fun L1 g1 => ?_)
  have hL : ∀ i, i < n + 1 → L1 i = L i := fun i hi => (g1 i (by omega)).trans (hL i hi)
  have hz := ms_zz_le hz (Nat.le_succ _)
  refine b_putC (ci := 0) (k := 1) (b := (n + 1)) C in0 rfl (by decide) tyX0 tyX0_ok nmX0 hn dX0_init_14 (by decide) (by decide) rfl kw_1_87 rfl hin2 rfl (tyX0_ok 1 (by decide)) rfl rfl (by show _ < n + 1 + _; exact Nat.lt_of_lt_of_le (show (n + 1) < n + 1 + 1 by omega) (Nat.le_refl _)) rfl ?_
  refine a_aload_n C dX0_init_17 rfl 0 rfl rfl ?_
  refine a_bipush (v := 16) C dX0_init_18 (by decide) rfl ?_
  refine b_newI (N' := 16) (n0 := n + 2) (l1 := lp ++ (0, 0, (va_up (fun _ => none) 1 (some (n + 1)))) :: ([(13, 16, fun _ => none)] ++ ([(13, 16, fun _ => none)]))) (lvf := fun L => [(0, .ref (L n))]) (stf := fun L => [.ref (L n)]) C (by rw [List.length_append, List.length_cons, hn]; rfl) (by simp) kw_1_74 hz (by decide) (by decide) (Nat.le_of_ble_eq_true rfl) (Nat.le_of_ble_eq_true rfl) (Nat.le_of_ble_eq_true rfl) dX0_init_20 (fun L' g => by rw [g n (by omega)]) (fun L' g => by rw [g n (by omega)]) rfl (fun L2 g2 => ?_)
  have hL : ∀ i, i < n + 1 → L2 i = L i := fun i hi => (g2 i (by omega)).trans (hL i hi)
  have hz := ms_zz_le hz (Nat.le_succ _)
  refine b_putC (ci := 0) (k := 2) (b := (n + 2)) C in0 rfl (by decide) tyX0 tyX0_ok nmX0 hn dX0_init_22 (by decide) (by decide) rfl kw_1_91 rfl hin2 rfl (tyX0_ok 2 (by decide)) rfl rfl (by show _ < n + 1 + _; exact Nat.lt_of_lt_of_le (show (n + 2) < n + 1 + 2 by omega) (Nat.le_refl _)) rfl ?_
  refine a_aload_n C dX0_init_25 rfl 0 rfl rfl ?_
  refine a_bipush (v := 16) C dX0_init_26 (by decide) rfl ?_
  refine b_newI (N' := 16) (n0 := n + 3) (l1 := lp ++ (0, 0, (va_up (va_up (fun _ => none) 1 (some (n + 1))) 2 (some (n + 2)))) :: ([(13, 16, fun _ => none)] ++ ([(13, 16, fun _ => none)] ++ ([(13, 16, fun _ => none)])))) (lvf := fun L => [(0, .ref (L n))]) (stf := fun L => [.ref (L n)]) C (by rw [List.length_append, List.length_cons, hn]; rfl) (by simp) kw_1_74 hz (by decide) (by decide) (Nat.le_of_ble_eq_true rfl) (Nat.le_of_ble_eq_true rfl) (Nat.le_of_ble_eq_true rfl) dX0_init_28 (fun L' g => by rw [g n (by omega)]) (fun L' g => by rw [g n (by omega)]) rfl (fun L3 g3 => ?_)
  have hL : ∀ i, i < n + 1 → L3 i = L i := fun i hi => (g3 i (by omega)).trans (hL i hi)
  have hz := ms_zz_le hz (Nat.le_succ _)
  refine b_putC (ci := 0) (k := 3) (b := (n + 3)) C in0 rfl (by decide) tyX0 tyX0_ok nmX0 hn dX0_init_30 (by decide) (by decide) rfl kw_1_94 rfl hin2 rfl (tyX0_ok 3 (by decide)) rfl rfl (by show _ < n + 1 + _; exact Nat.lt_of_lt_of_le (show (n + 3) < n + 1 + 3 by omega) (Nat.le_refl _)) rfl ?_
  refine a_aload_n C dX0_init_33 rfl 0 rfl rfl ?_
  refine a_bipush (v := 16) C dX0_init_34 (by decide) rfl ?_
  refine b_newI (N' := 16) (n0 := n + 4) (l1 := lp ++ (0, 0, (va_up (va_up (va_up (fun _ => none) 1 (some (n + 1))) 2 (some (n + 2))) 3 (some (n + 3)))) :: ([(13, 16, fun _ => none)] ++ ([(13, 16, fun _ => none)] ++ ([(13, 16, fun _ => none)] ++ ([(13, 16, fun _ => none)]))))) (lvf := fun L => [(0, .ref (L n))]) (stf := fun L => [.ref (L n)]) C (by rw [List.length_append, List.length_cons, hn]; rfl) (by simp) kw_1_74 hz (by decide) (by decide) (Nat.le_of_ble_eq_true rfl) (Nat.le_of_ble_eq_true rfl) (Nat.le_of_ble_eq_true rfl) dX0_init_36 (fun L' g => by rw [g n (by omega)]) (fun L' g => by rw [g n (by omega)]) rfl (fun L4 g4 => ?_)
  have hL : ∀ i, i < n + 1 → L4 i = L i := fun i hi => (g4 i (by omega)).trans (hL i hi)
  have hz := ms_zz_le hz (Nat.le_succ _)
  refine b_putC (ci := 0) (k := 4) (b := (n + 4)) C in0 rfl (by decide) tyX0 tyX0_ok nmX0 hn dX0_init_38 (by decide) (by decide) rfl kw_1_97 rfl hin2 rfl (tyX0_ok 4 (by decide)) rfl rfl (by show _ < n + 1 + _; exact Nat.lt_of_lt_of_le (show (n + 4) < n + 1 + 4 by omega) (Nat.le_refl _)) rfl ?_
  refine a_aload_n C dX0_init_41 rfl 0 rfl rfl ?_
  refine a_bipush (v := 16) C dX0_init_42 (by decide) rfl ?_
  refine b_newI (N' := 16) (n0 := n + 5) (l1 := lp ++ (0, 0, (va_up (va_up (va_up (va_up (fun _ => none) 1 (some (n + 1))) 2 (some (n + 2))) 3 (some (n + 3))) 4 (some (n + 4)))) :: ([(13, 16, fun _ => none)] ++ ([(13, 16, fun _ => none)] ++ ([(13, 16, fun _ => none)] ++ ([(13, 16, fun _ => none)] ++ ([(13, 16, fun _ => none)])))))) (lvf := fun L => [(0, .ref (L n))]) (stf := fun L => [.ref (L n)]) C (by rw [List.length_append, List.length_cons, hn]; rfl) (by simp) kw_1_74 hz (by decide) (by decide) (Nat.le_of_ble_eq_true rfl) (Nat.le_of_ble_eq_true rfl) (Nat.le_of_ble_eq_true rfl) dX0_init_44 (fun L' g => by rw [g n (by omega)]) (fun L' g => by rw [g n (by omega)]) rfl (fun L5 g5 => ?_)
  have hL : ∀ i, i < n + 1 → L5 i = L i := fun i hi => (g5 i (by omega)).trans (hL i hi)
  have hz := ms_zz_le hz (Nat.le_succ _)
  refine b_putC (ci := 0) (k := 5) (b := (n + 5)) C in0 rfl (by decide) tyX0 tyX0_ok nmX0 hn dX0_init_46 (by decide) (by decide) rfl kw_1_100 rfl hin2 rfl (tyX0_ok 5 (by decide)) rfl rfl (by show _ < n + 1 + _; exact Nat.lt_of_lt_of_le (show (n + 5) < n + 1 + 5 by omega) (Nat.le_refl _)) rfl ?_
  refine a_aload_n C dX0_init_49 rfl 0 rfl rfl ?_
  refine a_bipush (v := 16) C dX0_init_50 (by decide) rfl ?_
  refine b_newI (N' := 16) (n0 := n + 6) (l1 := lp ++ (0, 0, (va_up (va_up (va_up (va_up (va_up (fun _ => none) 1 (some (n + 1))) 2 (some (n + 2))) 3 (some (n + 3))) 4 (some (n + 4))) 5 (some (n + 5)))) :: ([(13, 16, fun _ => none)] ++ ([(13, 16, fun _ => none)] ++ ([(13, 16, fun _ => none)] ++ ([(13, 16, fun _ => none)] ++ ([(13, 16, fun _ => none)] ++ ([(13, 16, fun _ => none)]))))))) (lvf := fun L => [(0, .ref (L n))]) (stf := fun L => [.ref (L n)]) C (by rw [List.length_append, List.length_cons, hn]; rfl) (by simp) kw_1_74 hz (by decide) (by decide) (Nat.le_of_ble_eq_true rfl) (Nat.le_of_ble_eq_true rfl) (Nat.le_of_ble_eq_true rfl) dX0_init_52 (fun L' g => by rw [g n (by omega)]) (fun L' g => by rw [g n (by omega)]) rfl (fun L6 g6 => ?_)
  have hL : ∀ i, i < n + 1 → L6 i = L i := fun i hi => (g6 i (by omega)).trans (hL i hi)
  have hz := ms_zz_le hz (Nat.le_succ _)
  refine b_putC (ci := 0) (k := 6) (b := (n + 6)) C in0 rfl (by decide) tyX0 tyX0_ok nmX0 hn dX0_init_54 (by decide) (by decide) rfl kw_1_104 rfl hin2 rfl (tyX0_ok 6 (by decide)) rfl rfl (by show _ < n + 1 + _; exact Nat.lt_of_lt_of_le (show (n + 6) < n + 1 + 6 by omega) (Nat.le_refl _)) rfl ?_
  refine a_aload_n C dX0_init_57 rfl 0 rfl rfl ?_
  refine a_bipush (v := 16) C dX0_init_58 (by decide) rfl ?_
  refine b_newZ (N' := 16) (n0 := n + 7) (l1 := lp ++ (0, 0, (va_up (va_up (va_up (va_up (va_up (va_up (fun _ => none) 1 (some (n + 1))) 2 (some (n + 2))) 3 (some (n + 3))) 4 (some (n + 4))) 5 (some (n + 5))) 6 (some (n + 6)))) :: ([(13, 16, fun _ => none)] ++ ([(13, 16, fun _ => none)] ++ ([(13, 16, fun _ => none)] ++ ([(13, 16, fun _ => none)] ++ ([(13, 16, fun _ => none)] ++ ([(13, 16, fun _ => none)] ++ ([(15, 16, fun _ => none)])))))))) (lvf := fun L => [(0, .ref (L n))]) (stf := fun L => [.ref (L n)]) C (by rw [List.length_append, List.length_cons, hn]; rfl) (by simp) kw_1_75 hz (by decide) (by decide) (Nat.le_of_ble_eq_true rfl) (Nat.le_of_ble_eq_true rfl) (Nat.le_of_ble_eq_true rfl) dX0_init_60 (fun L' g => by rw [g n (by omega)]) (fun L' g => by rw [g n (by omega)]) rfl (fun L7 g7 => ?_)
  have hL : ∀ i, i < n + 1 → L7 i = L i := fun i hi => (g7 i (by omega)).trans (hL i hi)
  have hz := ms_zz_le hz (Nat.le_succ _)
  refine b_putC (ci := 0) (k := 7) (b := (n + 7)) C in0 rfl (by decide) tyX0 tyX0_ok nmX0 hn dX0_init_62 (by decide) (by decide) rfl kw_1_108 rfl hin2 rfl (tyX0_ok 7 (by decide)) rfl rfl (by show _ < n + 1 + _; exact Nat.lt_of_lt_of_le (show (n + 7) < n + 1 + 7 by omega) (Nat.le_refl _)) rfl ?_
  refine a_aload_n C dX0_init_65 rfl 0 rfl rfl ?_
  refine a_bipush (v := 64) C dX0_init_66 (by decide) rfl ?_
  refine b_newI (N' := 64) (n0 := n + 8) (l1 := lp ++ (0, 0, (va_up (va_up (va_up (va_up (va_up (va_up (va_up (fun _ => none) 1 (some (n + 1))) 2 (some (n + 2))) 3 (some (n + 3))) 4 (some (n + 4))) 5 (some (n + 5))) 6 (some (n + 6))) 7 (some (n + 7)))) :: ([(13, 16, fun _ => none)] ++ ([(13, 16, fun _ => none)] ++ ([(13, 16, fun _ => none)] ++ ([(13, 16, fun _ => none)] ++ ([(13, 16, fun _ => none)] ++ ([(13, 16, fun _ => none)] ++ ([(15, 16, fun _ => none)] ++ ([(13, 64, fun _ => none)]))))))))) (lvf := fun L => [(0, .ref (L n))]) (stf := fun L => [.ref (L n)]) C (by rw [List.length_append, List.length_cons, hn]; rfl) (by simp) kw_1_74 hz (by decide) (by decide) (Nat.le_of_ble_eq_true rfl) (Nat.le_of_ble_eq_true rfl) (Nat.le_of_ble_eq_true rfl) dX0_init_68 (fun L' g => by rw [g n (by omega)]) (fun L' g => by rw [g n (by omega)]) rfl (fun L8 g8 => ?_)
  have hL : ∀ i, i < n + 1 → L8 i = L i := fun i hi => (g8 i (by omega)).trans (hL i hi)
  have hz := ms_zz_le hz (Nat.le_succ _)
  refine b_putC (ci := 0) (k := 8) (b := (n + 8)) C in0 rfl (by decide) tyX0 tyX0_ok nmX0 hn dX0_init_70 (by decide) (by decide) rfl kw_1_111 rfl hin2 rfl (tyX0_ok 8 (by decide)) rfl rfl (by show _ < n + 1 + _; exact Nat.lt_of_lt_of_le (show (n + 8) < n + 1 + 8 by omega) (Nat.le_refl _)) rfl ?_
  exact a_cret C dX0_init_73 hr hlocks (Nat.le_of_ble_eq_true rfl) (Nat.le_of_ble_eq_true rfl) rfl rfl (by rw [ms_of_Z, List.length_append, hn]; exact hL)

/-! the constructor of CensusWalk$Walkers -/
theorem pd_X9_init : (⟨"CensusWalk$Walkers", "<init>", "()V"⟩ : MethodName).cls ≠ "java/lang/invoke/MethodHandle" ∧ (⟨"CensusWalk$Walkers", "<init>", "()V"⟩ : MethodName).cls ≠ "java/lang/invoke/VarHandle" ∧ (parseMethodDescriptor (⟨"CensusWalk$Walkers", "<init>", "()V"⟩ : MethodName).desc).map (fun d => d.parameters.length) = some 0 := by decide +kernel
def cs_X9 (n : Nat) : List ms_Ce := (9, 0, (va_up (va_up (va_up (va_up (fun _ => none) 1 (some (n + 1))) 2 (some (n + 2))) 3 (some (n + 3))) 4 (some (n + 4)))) :: ([(13, 3, fun _ => none)] ++ ([(13, 3, fun _ => none)] ++ ([(13, 3, fun _ => none)] ++ ([(13, 36, fun _ => none)]))))
def fu_X9 (u : ms_St) (n : Nat) : ms_St := (ms_sI u n 0 0)
theorem fz_X9 {n : Nat} {u : ms_St} (h : ms_zz (n + 1) u) : ms_zz (n + 5) (fu_X9 u n) := by
  unfold fu_X9
  replace h := ms_zz_sI (k := 0) (v := 0) h (show n < _ by omega)
  exact ms_zz_le h (by omega)
set_option maxHeartbeats 4000000 in
set_option maxRecDepth 100000 in
theorem ci_X9 (l : Launch) (G : va_G) (cy : Nat → ClassId) (L : Nat → Nat) (lp : List ms_Ce) (n : Nat) (hn : lp.length = n) (u : ms_St) (hz : ms_zz (n + 1) u) : ms_MetC l ⟨"CensusWalk$Walkers", "<init>", "()V"⟩ (Cond.code ⟨"CensusWalk$Walkers", "<init>", "()V"⟩ prog_11_method_1_code 1 none :: lw_g) ({ frames := 1, cells := 4, slots := 45, locals := 40 } : Room) G cy L (ms_of (lp ++ [(9, 0, fun _ => none)])) [.ref (L n)] u (ms_of (lp ++ cs_X9 n)) (fu_X9 u n) 4 45 := by
  refine ms_enterC (lv := [(0, .ref (L n))]) (by decide) rfl (Nat.le_of_ble_eq_true rfl) rfl ?_
  intro p e s m args below meth c A C hr hlocks hin2
  have hL : ∀ i, i < n + 1 → L i = L i := fun _ _ => rfl
  refine a_aload_n C dX9_init_0 rfl 0 rfl rfl ?_
  refine a_obj C kw_1_136 kw_1_33 kw_1_34 dX9_init_1 (Nat.le_of_ble_eq_true rfl) (Nat.le_of_ble_eq_true rfl) rfl ?_
  refine a_aload_n C dX9_init_4 rfl 0 rfl rfl ?_
  refine a_iconst (v := 0) C dX9_init_5 (by decide) rfl ?_
  refine s_9_0 C dX9_init_6 (ms_oat hn) kw_1_137 rfl ?_
  have hz := ms_zz_sI (k := 0) (v := 0) hz (show n < _ by omega)
  refine a_aload_n C dX9_init_9 rfl 0 rfl rfl ?_
  refine a_iconst (v := 3) C dX9_init_10 (by decide) rfl ?_
  refine b_newI (N' := 3) (n0 := n + 1) (l1 := lp ++ (9, 0, (fun _ => none)) :: ([(13, 3, fun _ => none)])) (lvf := fun L => [(0, .ref (L n))]) (stf := fun L => [.ref (L n)]) C (by rw [List.length_append, List.length_cons, hn]; rfl) (by simp) kw_1_74 hz (by decide) (by decide) (Nat.le_of_ble_eq_true rfl) (Nat.le_of_ble_eq_true rfl) (Nat.le_of_ble_eq_true rfl) dX9_init_11 (fun L' g => by rw [g n (by omega)]) (fun L' g => by rw [g n (by omega)]) rfl (fun L1 g1 => ?_)
  have hL : ∀ i, i < n + 1 → L1 i = L i := fun i hi => (g1 i (by omega)).trans (hL i hi)
  have hz := ms_zz_le hz (Nat.le_succ _)
  refine b_putC (ci := 9) (k := 1) (b := (n + 1)) C in9 rfl (by decide) tyX9 tyX9_ok nmX9 hn dX9_init_13 (by decide) (by decide) rfl kw_1_143 rfl hin2 rfl (tyX9_ok 1 (by decide)) rfl rfl (by show _ < n + 1 + _; exact Nat.lt_of_lt_of_le (show (n + 1) < n + 1 + 1 by omega) (Nat.le_refl _)) rfl ?_
  refine a_aload_n C dX9_init_16 rfl 0 rfl rfl ?_
  refine a_iconst (v := 3) C dX9_init_17 (by decide) rfl ?_
  refine b_newI (N' := 3) (n0 := n + 2) (l1 := lp ++ (9, 0, (va_up (fun _ => none) 1 (some (n + 1)))) :: ([(13, 3, fun _ => none)] ++ ([(13, 3, fun _ => none)]))) (lvf := fun L => [(0, .ref (L n))]) (stf := fun L => [.ref (L n)]) C (by rw [List.length_append, List.length_cons, hn]; rfl) (by simp) kw_1_74 hz (by decide) (by decide) (Nat.le_of_ble_eq_true rfl) (Nat.le_of_ble_eq_true rfl) (Nat.le_of_ble_eq_true rfl) dX9_init_18 (fun L' g => by rw [g n (by omega)]) (fun L' g => by rw [g n (by omega)]) rfl (fun L2 g2 => ?_)
  have hL : ∀ i, i < n + 1 → L2 i = L i := fun i hi => (g2 i (by omega)).trans (hL i hi)
  have hz := ms_zz_le hz (Nat.le_succ _)
  refine b_putC (ci := 9) (k := 2) (b := (n + 2)) C in9 rfl (by decide) tyX9 tyX9_ok nmX9 hn dX9_init_20 (by decide) (by decide) rfl kw_1_146 rfl hin2 rfl (tyX9_ok 2 (by decide)) rfl rfl (by show _ < n + 1 + _; exact Nat.lt_of_lt_of_le (show (n + 2) < n + 1 + 2 by omega) (Nat.le_refl _)) rfl ?_
  refine a_aload_n C dX9_init_23 rfl 0 rfl rfl ?_
  refine a_iconst (v := 3) C dX9_init_24 (by decide) rfl ?_
  refine b_newI (N' := 3) (n0 := n + 3) (l1 := lp ++ (9, 0, (va_up (va_up (fun _ => none) 1 (some (n + 1))) 2 (some (n + 2)))) :: ([(13, 3, fun _ => none)] ++ ([(13, 3, fun _ => none)] ++ ([(13, 3, fun _ => none)])))) (lvf := fun L => [(0, .ref (L n))]) (stf := fun L => [.ref (L n)]) C (by rw [List.length_append, List.length_cons, hn]; rfl) (by simp) kw_1_74 hz (by decide) (by decide) (Nat.le_of_ble_eq_true rfl) (Nat.le_of_ble_eq_true rfl) (Nat.le_of_ble_eq_true rfl) dX9_init_25 (fun L' g => by rw [g n (by omega)]) (fun L' g => by rw [g n (by omega)]) rfl (fun L3 g3 => ?_)
  have hL : ∀ i, i < n + 1 → L3 i = L i := fun i hi => (g3 i (by omega)).trans (hL i hi)
  have hz := ms_zz_le hz (Nat.le_succ _)
  refine b_putC (ci := 9) (k := 3) (b := (n + 3)) C in9 rfl (by decide) tyX9 tyX9_ok nmX9 hn dX9_init_27 (by decide) (by decide) rfl kw_1_149 rfl hin2 rfl (tyX9_ok 3 (by decide)) rfl rfl (by show _ < n + 1 + _; exact Nat.lt_of_lt_of_le (show (n + 3) < n + 1 + 3 by omega) (Nat.le_refl _)) rfl ?_
  refine a_aload_n C dX9_init_30 rfl 0 rfl rfl ?_
  refine a_bipush (v := 36) C dX9_init_31 (by decide) rfl ?_
  refine b_newI (N' := 36) (n0 := n + 4) (l1 := lp ++ (9, 0, (va_up (va_up (va_up (fun _ => none) 1 (some (n + 1))) 2 (some (n + 2))) 3 (some (n + 3)))) :: ([(13, 3, fun _ => none)] ++ ([(13, 3, fun _ => none)] ++ ([(13, 3, fun _ => none)] ++ ([(13, 36, fun _ => none)]))))) (lvf := fun L => [(0, .ref (L n))]) (stf := fun L => [.ref (L n)]) C (by rw [List.length_append, List.length_cons, hn]; rfl) (by simp) kw_1_74 hz (by decide) (by decide) (Nat.le_of_ble_eq_true rfl) (Nat.le_of_ble_eq_true rfl) (Nat.le_of_ble_eq_true rfl) dX9_init_33 (fun L' g => by rw [g n (by omega)]) (fun L' g => by rw [g n (by omega)]) rfl (fun L4 g4 => ?_)
  have hL : ∀ i, i < n + 1 → L4 i = L i := fun i hi => (g4 i (by omega)).trans (hL i hi)
  have hz := ms_zz_le hz (Nat.le_succ _)
  refine b_putC (ci := 9) (k := 4) (b := (n + 4)) C in9 rfl (by decide) tyX9 tyX9_ok nmX9 hn dX9_init_35 (by decide) (by decide) rfl kw_1_152 rfl hin2 rfl (tyX9_ok 4 (by decide)) rfl rfl (by show _ < n + 1 + _; exact Nat.lt_of_lt_of_le (show (n + 4) < n + 1 + 4 by omega) (Nat.le_refl _)) rfl ?_
  exact a_cret C dX9_init_38 hr hlocks (Nat.le_of_ble_eq_true rfl) (Nat.le_of_ble_eq_true rfl) rfl rfl (by rw [ms_of_Z, List.length_append, hn]; exact hL)

/-! the constructor of CensusWalk$Town -/
theorem pd_X7_init : (⟨"CensusWalk$Town", "<init>", "()V"⟩ : MethodName).cls ≠ "java/lang/invoke/MethodHandle" ∧ (⟨"CensusWalk$Town", "<init>", "()V"⟩ : MethodName).cls ≠ "java/lang/invoke/VarHandle" ∧ (parseMethodDescriptor (⟨"CensusWalk$Town", "<init>", "()V"⟩ : MethodName).desc).map (fun d => d.parameters.length) = some 0 := by decide +kernel
def cs_X7 (n : Nat) : List ms_Ce := (7, 0, (va_up (va_up (va_up (fun _ => none) 3 (some (n + 1))) 4 (some (n + 6))) 5 (some (n + 15)))) :: (cs_X5 (n + 1) ++ (cs_X0 (n + 6) ++ (cs_X9 (n + 15))))
def fu_X7 (u : ms_St) (n : Nat) : ms_St := (fu_X9 (fu_X0 (fu_X5 (ms_sI (ms_sI (ms_sI u n 0 0) n 1 0) n 2 60) (n + 1)) (n + 6)) (n + 15))
theorem fz_X7 {n : Nat} {u : ms_St} (h : ms_zz (n + 1) u) : ms_zz (n + 20) (fu_X7 u n) := by
  unfold fu_X7
  replace h := ms_zz_sI (k := 0) (v := 0) h (show n < _ by omega)
  replace h := ms_zz_sI (k := 1) (v := 0) h (show n < _ by omega)
  replace h := ms_zz_sI (k := 2) (v := 60) h (show n < _ by omega)
  replace h := fz_X5 (n := n + 1) (ms_zz_le h (by omega))
  replace h := fz_X0 (n := n + 6) (ms_zz_le h (by omega))
  replace h := fz_X9 (n := n + 15) (ms_zz_le h (by omega))
  exact ms_zz_le h (by omega)
set_option maxHeartbeats 4000000 in
set_option maxRecDepth 100000 in
theorem ci_X7 (l : Launch) (G : va_G) (cy : Nat → ClassId) (L : Nat → Nat) (lp : List ms_Ce) (n : Nat) (hn : lp.length = n) (u : ms_St) (hz : ms_zz (n + 1) u) : ms_MetC l ⟨"CensusWalk$Town", "<init>", "()V"⟩ (Cond.code ⟨"CensusWalk$Town", "<init>", "()V"⟩ prog_9_method_1_code 1 none :: lw_g) ({ frames := 2, cells := 19, slots := 288, locals := 60 } : Room) G cy L (ms_of (lp ++ [(7, 0, fun _ => none)])) [.ref (L n)] u (ms_of (lp ++ cs_X7 n)) (fu_X7 u n) 19 288 := by
  refine ms_enterC (lv := [(0, .ref (L n))]) (by decide) rfl (Nat.le_of_ble_eq_true rfl) rfl ?_
  intro p e s m args below meth c A C hr hlocks hin2
  have hL : ∀ i, i < n + 1 → L i = L i := fun _ _ => rfl
  refine a_aload_n C dX7_init_0 rfl 0 rfl rfl ?_
  refine a_obj C kw_1_40 kw_1_33 kw_1_34 dX7_init_1 (Nat.le_of_ble_eq_true rfl) (Nat.le_of_ble_eq_true rfl) rfl ?_
  refine a_aload_n C dX7_init_4 rfl 0 rfl rfl ?_
  refine a_iconst (v := 0) C dX7_init_5 (by decide) rfl ?_
  refine s_7_0 C dX7_init_6 (ms_oat hn) kw_1_165 rfl ?_
  have hz := ms_zz_sI (k := 0) (v := 0) hz (show n < _ by omega)
  refine a_aload_n C dX7_init_9 rfl 0 rfl rfl ?_
  refine a_iconst (v := 0) C dX7_init_10 (by decide) rfl ?_
  refine s_7_1 C dX7_init_11 (ms_oat hn) kw_1_169 rfl ?_
  have hz := ms_zz_sI (k := 1) (v := 0) hz (show n < _ by omega)
  refine a_aload_n C dX7_init_14 rfl 0 rfl rfl ?_
  refine a_bipush (v := 60) C dX7_init_15 (by decide) rfl ?_
  refine s_7_2 C dX7_init_17 (ms_oat hn) kw_1_172 rfl ?_
  have hz := ms_zz_sI (k := 2) (v := 60) hz (show n < _ by omega)
  refine a_aload_n C dX7_init_20 rfl 0 rfl rfl ?_
  refine b_newC (ci := 5) (n0 := n + 1) (lvf := fun L => [(0, .ref (L n))]) (stf := fun L => [.ref (L n)]) C (by rw [List.length_append, List.length_cons, hn]; rfl) rfl in5 rfl (by decide) tyX5 tyX5_ok rfl df_5 kw_1_41 kw_1_42 kw_1_3 hz (Nat.le_of_ble_eq_true rfl) (Nat.le_of_ble_eq_true rfl) dX7_init_21 (fun L' g => by rw [g n (by omega)]) (fun L' g => by rw [g n (by omega)]) rfl (fun L1 g1 => ?_)
  have hL : ∀ i, i < n + 1 → L1 i = L i := fun i hi => (g1 i (by omega)).trans (hL i hi)
  refine a_dup C dX7_init_24 rfl rfl ?_
  have hz := ms_zz_le hz (Nat.le_succ _)
  refine a_callCN (lvf := fun L => [(0, .ref (L n))]) (stf := fun L => [.ref (L (n + 1)), .ref (L n)]) C (ci_X5 l G cy L1 (lp ++ (7, 0, (fun _ => none)) :: ([])) (n + 1) (by rw [List.length_append, List.length_cons, hn]; rfl) (ms_sI (ms_sI (ms_sI u n 0 0) n 1 0) n 2 60) hz) (List.mem_of_getElem? (i := 1) rfl) kw_1_44 kw_1_3 kw_1_45 rfl rfl rfl pd_X5_init ⟨(Nat.le_of_ble_eq_true rfl), (Nat.le_of_ble_eq_true rfl)⟩ dX7_init_25 (z9 := n + 1 + 1) (by rw [ms_of_Z, List.length_append, List.length_append, List.length_cons, hn]; rfl) (fun L' g => by rw [g n (by omega)]) (fun L' g => by rw [g n (by omega), g (n + 1) (by omega)]) (Nat.le_of_ble_eq_true rfl) ⟨(Nat.le_of_ble_eq_true rfl), (Nat.le_of_ble_eq_true rfl)⟩ rfl (fun L2 g2 => ?_)
  have hL : ∀ i, i < n + 1 → L2 i = L i := fun i hi => (g2 i (by omega)).trans (hL i hi)
  refine a_E (E2 := ms_of (lp ++ (7, 0, (fun _ => none)) :: (cs_X5 (n + 1)))) (congrArg ms_of (by simp)) ?_
  have hz : ms_zz (n + 6) (fu_X5 (ms_sI (ms_sI (ms_sI u n 0 0) n 1 0) n 2 60) (n + 1)) := fz_X5 hz
  refine b_putC (ci := 7) (k := 3) (b := (n + 1)) C in7 rfl (by decide) tyX7 tyX7_ok nmX7 hn dX7_init_28 (by decide) (by decide) rfl kw_1_175 rfl hin2 rfl (tyX7_ok 3 (by decide)) rfl rfl (by show _ < n + 1 + _; exact Nat.lt_of_lt_of_le (show (n + 1) < n + 1 + 5 by omega) (Nat.le_refl _)) rfl ?_
  refine a_aload_n C dX7_init_31 rfl 0 rfl rfl ?_
  refine b_newC (ci := 0) (n0 := n + 6) (lvf := fun L => [(0, .ref (L n))]) (stf := fun L => [.ref (L n)]) C (by rw [List.length_append, List.length_cons, hn]; rfl) rfl in0 rfl (by decide) tyX0 tyX0_ok rfl df_0 kw_1_76 kw_1_77 kw_1_4 hz (Nat.le_of_ble_eq_true rfl) (Nat.le_of_ble_eq_true rfl) dX7_init_32 (fun L' g => by rw [g n (by omega)]) (fun L' g => by rw [g n (by omega)]) rfl (fun L3 g3 => ?_)
  have hL : ∀ i, i < n + 1 → L3 i = L i := fun i hi => (g3 i (by omega)).trans (hL i hi)
  refine a_dup C dX7_init_35 rfl rfl ?_
  have hz := ms_zz_le hz (Nat.le_succ _)
  refine a_callCN (lvf := fun L => [(0, .ref (L n))]) (stf := fun L => [.ref (L (n + 6)), .ref (L n)]) C (ci_X0 l G cy L3 (lp ++ (7, 0, (va_up (fun _ => none) 3 (some (n + 1)))) :: (cs_X5 (n + 1))) (n + 6) (by rw [List.length_append, List.length_cons, hn]; rfl) (fu_X5 (ms_sI (ms_sI (ms_sI u n 0 0) n 1 0) n 2 60) (n + 1)) hz) (List.mem_of_getElem? (i := 2) rfl) kw_1_79 kw_1_4 kw_1_80 rfl rfl rfl pd_X0_init ⟨(Nat.le_of_ble_eq_true rfl), (Nat.le_of_ble_eq_true rfl)⟩ dX7_init_36 (z9 := n + 6 + 1) (by rw [ms_of_Z, List.length_append, List.length_append, List.length_cons, hn]; rfl) (fun L' g => by rw [g n (by omega)]) (fun L' g => by rw [g n (by omega), g (n + 6) (by omega)]) (Nat.le_of_ble_eq_true rfl) ⟨(Nat.le_of_ble_eq_true rfl), (Nat.le_of_ble_eq_true rfl)⟩ rfl (fun L4 g4 => ?_)
  have hL : ∀ i, i < n + 1 → L4 i = L i := fun i hi => (g4 i (by omega)).trans (hL i hi)
  refine a_E (E2 := ms_of (lp ++ (7, 0, (va_up (fun _ => none) 3 (some (n + 1)))) :: (cs_X5 (n + 1) ++ (cs_X0 (n + 6))))) (congrArg ms_of (by simp)) ?_
  have hz : ms_zz (n + 15) (fu_X0 (fu_X5 (ms_sI (ms_sI (ms_sI u n 0 0) n 1 0) n 2 60) (n + 1)) (n + 6)) := fz_X0 hz
  refine b_putC (ci := 7) (k := 4) (b := (n + 6)) C in7 rfl (by decide) tyX7 tyX7_ok nmX7 hn dX7_init_39 (by decide) (by decide) rfl kw_1_179 rfl hin2 rfl (tyX7_ok 4 (by decide)) rfl rfl (by show _ < n + 1 + _; exact Nat.lt_of_lt_of_le (show (n + 6) < n + 1 + 14 by omega) (Nat.le_refl _)) rfl ?_
  refine a_aload_n C dX7_init_42 rfl 0 rfl rfl ?_
  refine b_newC (ci := 9) (n0 := n + 15) (lvf := fun L => [(0, .ref (L n))]) (stf := fun L => [.ref (L n)]) C (by rw [List.length_append, List.length_cons, hn]; rfl) rfl in9 rfl (by decide) tyX9 tyX9_ok rfl df_9 kw_1_131 kw_1_132 kw_1_5 hz (Nat.le_of_ble_eq_true rfl) (Nat.le_of_ble_eq_true rfl) dX7_init_43 (fun L' g => by rw [g n (by omega)]) (fun L' g => by rw [g n (by omega)]) rfl (fun L5 g5 => ?_)
  have hL : ∀ i, i < n + 1 → L5 i = L i := fun i hi => (g5 i (by omega)).trans (hL i hi)
  refine a_dup C dX7_init_46 rfl rfl ?_
  have hz := ms_zz_le hz (Nat.le_succ _)
  refine a_callCN (lvf := fun L => [(0, .ref (L n))]) (stf := fun L => [.ref (L (n + 15)), .ref (L n)]) C (ci_X9 l G cy L5 (lp ++ (7, 0, (va_up (va_up (fun _ => none) 3 (some (n + 1))) 4 (some (n + 6)))) :: (cs_X5 (n + 1) ++ (cs_X0 (n + 6)))) (n + 15) (by rw [List.length_append, List.length_cons, hn]; rfl) (fu_X0 (fu_X5 (ms_sI (ms_sI (ms_sI u n 0 0) n 1 0) n 2 60) (n + 1)) (n + 6)) hz) (List.mem_of_getElem? (i := 3) rfl) kw_1_134 kw_1_5 kw_1_135 rfl rfl rfl pd_X9_init ⟨(Nat.le_of_ble_eq_true rfl), (Nat.le_of_ble_eq_true rfl)⟩ dX7_init_47 (z9 := n + 15 + 1) (by rw [ms_of_Z, List.length_append, List.length_append, List.length_cons, hn]; rfl) (fun L' g => by rw [g n (by omega)]) (fun L' g => by rw [g n (by omega), g (n + 15) (by omega)]) (Nat.le_of_ble_eq_true rfl) ⟨(Nat.le_of_ble_eq_true rfl), (Nat.le_of_ble_eq_true rfl)⟩ rfl (fun L6 g6 => ?_)
  have hL : ∀ i, i < n + 1 → L6 i = L i := fun i hi => (g6 i (by omega)).trans (hL i hi)
  refine a_E (E2 := ms_of (lp ++ (7, 0, (va_up (va_up (fun _ => none) 3 (some (n + 1))) 4 (some (n + 6)))) :: (cs_X5 (n + 1) ++ (cs_X0 (n + 6) ++ (cs_X9 (n + 15)))))) (congrArg ms_of (by simp)) ?_
  have hz : ms_zz (n + 20) (fu_X9 (fu_X0 (fu_X5 (ms_sI (ms_sI (ms_sI u n 0 0) n 1 0) n 2 60) (n + 1)) (n + 6)) (n + 15)) := fz_X9 hz
  refine b_putC (ci := 7) (k := 5) (b := (n + 15)) C in7 rfl (by decide) tyX7 tyX7_ok nmX7 hn dX7_init_50 (by decide) (by decide) rfl kw_1_185 rfl hin2 rfl (tyX7_ok 5 (by decide)) rfl rfl (by show _ < n + 1 + _; exact Nat.lt_of_lt_of_le (show (n + 15) < n + 1 + 19 by omega) (Nat.le_refl _)) rfl ?_
  exact a_cret C dX7_init_53 hr hlocks (Nat.le_of_ble_eq_true rfl) (Nat.le_of_ble_eq_true rfl) rfl rfl (by rw [ms_of_Z, List.length_append, hn]; exact hL)

/-! the constructor of CensusWalk$Tokens -/
theorem pd_X6_init : (⟨"CensusWalk$Tokens", "<init>", "()V"⟩ : MethodName).cls ≠ "java/lang/invoke/MethodHandle" ∧ (⟨"CensusWalk$Tokens", "<init>", "()V"⟩ : MethodName).cls ≠ "java/lang/invoke/VarHandle" ∧ (parseMethodDescriptor (⟨"CensusWalk$Tokens", "<init>", "()V"⟩ : MethodName).desc).map (fun d => d.parameters.length) = some 0 := by decide +kernel
def cs_X6 (n : Nat) : List ms_Ce := (6, 0, (fun _ => none)) :: ([(12, 0, fun _ => none)])
def fu_X6 (u : ms_St) (n : Nat) : ms_St := (ms_sI (ms_sI (ms_sI (ms_sI (ms_sI (ms_sI u n 0 0) n 1 0) n 2 0) n 3 (nI (n + 1))) n 4 0) n 5 0)
theorem fz_X6 {n : Nat} {u : ms_St} (h : ms_zz (n + 1) u) : ms_zz (n + 2) (fu_X6 u n) := by
  unfold fu_X6
  replace h := ms_zz_sI (k := 0) (v := 0) h (show n < _ by omega)
  replace h := ms_zz_sI (k := 1) (v := 0) h (show n < _ by omega)
  replace h := ms_zz_sI (k := 2) (v := 0) h (show n < _ by omega)
  replace h := ms_zz_sI (k := 3) (v := (nI (n + 1))) h (show n < _ by omega)
  replace h := ms_zz_sI (k := 4) (v := 0) h (show n < _ by omega)
  replace h := ms_zz_sI (k := 5) (v := 0) h (show n < _ by omega)
  exact ms_zz_le h (by omega)
set_option maxHeartbeats 4000000 in
set_option maxRecDepth 100000 in
theorem ci_X6 (l : Launch) (G : va_G) (cy : Nat → ClassId) (L : Nat → Nat) (lp : List ms_Ce) (n : Nat) (hn : lp.length = n) (hb : n < 100000) (u : ms_St) (hz : ms_zz (n + 1) u) : ms_MetC l ⟨"CensusWalk$Tokens", "<init>", "()V"⟩ (Cond.code ⟨"CensusWalk$Tokens", "<init>", "()V"⟩ prog_8_method_1_code 1 none :: lw_g) ({ frames := 1, cells := 1, slots := 0, locals := 40 } : Room) G cy L (ms_of (lp ++ [(6, 0, fun _ => none)])) [.ref (L n)] u (ms_of (lp ++ cs_X6 n)) (fu_X6 u n) 1 0 := by
  refine ms_enterC (lv := [(0, .ref (L n))]) (by decide) rfl (Nat.le_of_ble_eq_true rfl) rfl ?_
  intro p e s m args below meth c A C hr hlocks hin2
  have hL : ∀ i, i < n + 1 → L i = L i := fun _ _ => rfl
  refine a_aload_n C dX6_init_0 rfl 0 rfl rfl ?_
  refine a_obj C kw_1_217 kw_1_33 kw_1_34 dX6_init_1 (Nat.le_of_ble_eq_true rfl) (Nat.le_of_ble_eq_true rfl) rfl ?_
  refine a_aload_n C dX6_init_4 rfl 0 rfl rfl ?_
  refine a_iconst (v := 0) C dX6_init_5 (by decide) rfl ?_
  refine s_6_0 C dX6_init_6 (ms_oat hn) kw_1_218 rfl ?_
  have hz := ms_zz_sI (k := 0) (v := 0) hz (show n < _ by omega)
  refine a_aload_n C dX6_init_9 rfl 0 rfl rfl ?_
  refine a_iconst (v := 0) C dX6_init_10 (by decide) rfl ?_
  refine s_6_1 C dX6_init_11 (ms_oat hn) kw_1_220 rfl ?_
  have hz := ms_zz_sI (k := 1) (v := 0) hz (show n < _ by omega)
  refine a_aload_n C dX6_init_14 rfl 0 rfl rfl ?_
  refine a_iconst (v := 0) C dX6_init_15 (by decide) rfl ?_
  refine s_6_2 C dX6_init_16 (ms_oat hn) kw_1_222 rfl ?_
  have hz := ms_zz_sI (k := 2) (v := 0) hz (show n < _ by omega)
  refine a_aload_n C dX6_init_19 rfl 0 rfl rfl ?_
  refine a_iconst (v := 0) C dX6_init_20 (by decide) rfl ?_
  refine b_newB (N' := 0) (n0 := n + 1) (l1 := lp ++ (6, 0, (fun _ => none)) :: ([(12, 0, fun _ => none)])) (lvf := fun L => [(0, .ref (L n))]) (stf := fun L => [.ref (L n)]) C (by rw [List.length_append, List.length_cons, hn]; rfl) (by simp) kw_1_73 hz (by decide) (by decide) (Nat.le_of_ble_eq_true rfl) (Nat.le_of_ble_eq_true rfl) (Nat.le_of_ble_eq_true rfl) dX6_init_21 (fun L' g => by rw [g n (by omega)]) (fun L' g => by rw [g n (by omega)]) rfl (fun L1 g1 => ?_)
  have hL : ∀ i, i < n + 1 → L1 i = L i := fun i hi => (g1 i (by omega)).trans (hL i hi)
  have hz := ms_zz_le hz (Nat.le_succ _)
  refine s_6_3 C dX6_init_23 (ms_oat hn) kw_1_224 rfl (ms_oK (j := 0) (kd := 12) hn rfl rfl).1 (by omega) (by omega) ?_
  have hz := ms_zz_sI (k := 3) (v := nI (n + 1)) hz (show n < _ by omega)
  refine a_aload_n C dX6_init_26 rfl 0 rfl rfl ?_
  refine a_iconst (v := 0) C dX6_init_27 (by decide) rfl ?_
  refine s_6_4 C dX6_init_28 (ms_oat hn) kw_1_225 rfl ?_
  have hz := ms_zz_sI (k := 4) (v := 0) hz (show n < _ by omega)
  refine a_aload_n C dX6_init_31 rfl 0 rfl rfl ?_
  refine a_iconst (v := 0) C dX6_init_32 (by decide) rfl ?_
  refine s_6_5 C dX6_init_33 (ms_oat hn) kw_1_226 rfl ?_
  have hz := ms_zz_sI (k := 5) (v := 0) hz (show n < _ by omega)
  exact a_cret C dX6_init_36 hr hlocks (Nat.le_of_ble_eq_true rfl) (Nat.le_of_ble_eq_true rfl) rfl rfl (by rw [ms_of_Z, List.length_append, hn]; exact hL)

/-! the constructor of CensusWalk$VisitExpression -/
theorem pd_X8_init : (⟨"CensusWalk$VisitExpression", "<init>", "()V"⟩ : MethodName).cls ≠ "java/lang/invoke/MethodHandle" ∧ (⟨"CensusWalk$VisitExpression", "<init>", "()V"⟩ : MethodName).cls ≠ "java/lang/invoke/VarHandle" ∧ (parseMethodDescriptor (⟨"CensusWalk$VisitExpression", "<init>", "()V"⟩ : MethodName).desc).map (fun d => d.parameters.length) = some 0 := by decide +kernel
def cs_X8 (n : Nat) : List ms_Ce := (8, 0, (va_up (va_up (fun _ => none) 0 (some (n + 1))) 2 (some (n + 2)))) :: ([(13, 900, fun _ => none)] ++ ([(13, 16, fun _ => none)]))
def fu_X8 (u : ms_St) (n : Nat) : ms_St := (ms_sI u n 1 0)
theorem fz_X8 {n : Nat} {u : ms_St} (h : ms_zz (n + 1) u) : ms_zz (n + 3) (fu_X8 u n) := by
  unfold fu_X8
  replace h := ms_zz_sI (k := 1) (v := 0) h (show n < _ by omega)
  exact ms_zz_le h (by omega)
set_option maxHeartbeats 4000000 in
set_option maxRecDepth 100000 in
theorem ci_X8 (l : Launch) (G : va_G) (cy : Nat → ClassId) (L : Nat → Nat) (lp : List ms_Ce) (n : Nat) (hn : lp.length = n) (u : ms_St) (hz : ms_zz (n + 1) u) : ms_MetC l ⟨"CensusWalk$VisitExpression", "<init>", "()V"⟩ (Cond.code ⟨"CensusWalk$VisitExpression", "<init>", "()V"⟩ prog_10_method_1_code 1 none :: lw_g) ({ frames := 1, cells := 2, slots := 916, locals := 40 } : Room) G cy L (ms_of (lp ++ [(8, 0, fun _ => none)])) [.ref (L n)] u (ms_of (lp ++ cs_X8 n)) (fu_X8 u n) 2 916 := by
  refine ms_enterC (lv := [(0, .ref (L n))]) (by decide) rfl (Nat.le_of_ble_eq_true rfl) rfl ?_
  intro p e s m args below meth c A C hr hlocks hin2
  have hL : ∀ i, i < n + 1 → L i = L i := fun _ _ => rfl
  refine a_aload_n C dX8_init_0 rfl 0 rfl rfl ?_
  refine a_obj C kw_2_5 kw_1_33 kw_1_34 dX8_init_1 (Nat.le_of_ble_eq_true rfl) (Nat.le_of_ble_eq_true rfl) rfl ?_
  refine a_aload_n C dX8_init_4 rfl 0 rfl rfl ?_
  refine a_sipush (v := 900) C dX8_init_5 (by decide) rfl ?_
  refine b_newI (N' := 900) (n0 := n + 1) (l1 := lp ++ (8, 0, (fun _ => none)) :: ([(13, 900, fun _ => none)])) (lvf := fun L => [(0, .ref (L n))]) (stf := fun L => [.ref (L n)]) C (by rw [List.length_append, List.length_cons, hn]; rfl) (by simp) kw_1_74 hz (by decide) (by decide) (Nat.le_of_ble_eq_true rfl) (Nat.le_of_ble_eq_true rfl) (Nat.le_of_ble_eq_true rfl) dX8_init_8 (fun L' g => by rw [g n (by omega)]) (fun L' g => by rw [g n (by omega)]) rfl (fun L1 g1 => ?_)
  have hL : ∀ i, i < n + 1 → L1 i = L i := fun i hi => (g1 i (by omega)).trans (hL i hi)
  have hz := ms_zz_le hz (Nat.le_succ _)
  refine b_putC (ci := 8) (k := 0) (b := (n + 1)) C in8 rfl (by decide) tyX8 tyX8_ok nmX8 hn dX8_init_10 (by decide) (by decide) rfl kw_2_6 rfl hin2 rfl (tyX8_ok 0 (by decide)) rfl rfl (by show _ < n + 1 + _; exact Nat.lt_of_lt_of_le (show (n + 1) < n + 1 + 1 by omega) (Nat.le_refl _)) rfl ?_
  refine a_aload_n C dX8_init_13 rfl 0 rfl rfl ?_
  refine a_iconst (v := 0) C dX8_init_14 (by decide) rfl ?_
  refine s_8_1 C dX8_init_15 (ms_oat hn) kw_2_7 rfl ?_
  have hz := ms_zz_sI (k := 1) (v := 0) hz (show n < _ by omega)
  refine a_aload_n C dX8_init_18 rfl 0 rfl rfl ?_
  refine a_bipush (v := 16) C dX8_init_19 (by decide) rfl ?_
  refine b_newI (N' := 16) (n0 := n + 2) (l1 := lp ++ (8, 0, (va_up (fun _ => none) 0 (some (n + 1)))) :: ([(13, 900, fun _ => none)] ++ ([(13, 16, fun _ => none)]))) (lvf := fun L => [(0, .ref (L n))]) (stf := fun L => [.ref (L n)]) C (by rw [List.length_append, List.length_cons, hn]; rfl) (by simp) kw_1_74 hz (by decide) (by decide) (Nat.le_of_ble_eq_true rfl) (Nat.le_of_ble_eq_true rfl) (Nat.le_of_ble_eq_true rfl) dX8_init_21 (fun L' g => by rw [g n (by omega)]) (fun L' g => by rw [g n (by omega)]) rfl (fun L2 g2 => ?_)
  have hL : ∀ i, i < n + 1 → L2 i = L i := fun i hi => (g2 i (by omega)).trans (hL i hi)
  have hz := ms_zz_le hz (Nat.le_succ _)
  refine b_putC (ci := 8) (k := 2) (b := (n + 2)) C in8 rfl (by decide) tyX8 tyX8_ok nmX8 hn dX8_init_23 (by decide) (by decide) rfl kw_2_8 rfl hin2 rfl (tyX8_ok 2 (by decide)) rfl rfl (by show _ < n + 1 + _; exact Nat.lt_of_lt_of_le (show (n + 2) < n + 1 + 2 by omega) (Nat.le_refl _)) rfl ?_
  exact a_cret C dX8_init_26 hr hlocks (Nat.le_of_ble_eq_true rfl) (Nat.le_of_ble_eq_true rfl) rfl rfl (by rw [ms_of_Z, List.length_append, hn]; exact hL)

/-! the constructor of CensusWalk$SetupReader -/
theorem pd_X3_init : (⟨"CensusWalk$SetupReader", "<init>", "()V"⟩ : MethodName).cls ≠ "java/lang/invoke/MethodHandle" ∧ (⟨"CensusWalk$SetupReader", "<init>", "()V"⟩ : MethodName).cls ≠ "java/lang/invoke/VarHandle" ∧ (parseMethodDescriptor (⟨"CensusWalk$SetupReader", "<init>", "()V"⟩ : MethodName).desc).map (fun d => d.parameters.length) = some 0 := by decide +kernel
def cs_X3 (n : Nat) : List ms_Ce := (3, 0, (va_up (va_up (va_up (fun _ => none) 0 (some (n + 1))) 3 (some (n + 21))) 4 (some (n + 23)))) :: (cs_X7 (n + 1) ++ (cs_X6 (n + 21) ++ (cs_X8 (n + 23))))
def fu_X3 (u : ms_St) (n : Nat) : ms_St := (ms_sI (ms_sI (ms_sI (fu_X8 (fu_X6 (ms_sI (ms_sI (fu_X7 u (n + 1)) n 1 (-1)) n 2 0) (n + 21)) (n + 23)) n 5 0) n 6 0) n 7 0)
theorem fz_X3 {n : Nat} {u : ms_St} (h : ms_zz (n + 1) u) : ms_zz (n + 26) (fu_X3 u n) := by
  unfold fu_X3
  replace h := fz_X7 (n := n + 1) (ms_zz_le h (by omega))
  replace h := ms_zz_sI (k := 1) (v := (-1)) h (show n < _ by omega)
  replace h := ms_zz_sI (k := 2) (v := 0) h (show n < _ by omega)
  replace h := fz_X6 (n := n + 21) (ms_zz_le h (by omega))
  replace h := fz_X8 (n := n + 23) (ms_zz_le h (by omega))
  replace h := ms_zz_sI (k := 5) (v := 0) h (show n < _ by omega)
  replace h := ms_zz_sI (k := 6) (v := 0) h (show n < _ by omega)
  replace h := ms_zz_sI (k := 7) (v := 0) h (show n < _ by omega)
  exact ms_zz_le h (by omega)
set_option maxHeartbeats 4000000 in
set_option maxRecDepth 100000 in
theorem ci_X3 (l : Launch) (G : va_G) (cy : Nat → ClassId) (L : Nat → Nat) (lp : List ms_Ce) (n : Nat) (hn : lp.length = n) (hb : n < 10000) (u : ms_St) (hz : ms_zz (n + 1) u) : ms_MetC l ⟨"CensusWalk$SetupReader", "<init>", "()V"⟩ (Cond.code ⟨"CensusWalk$SetupReader", "<init>", "()V"⟩ prog_5_method_1_code 1 none :: lw_g) ({ frames := 3, cells := 25, slots := 1219, locals := 80 } : Room) G cy L (ms_of (lp ++ [(3, 0, fun _ => none)])) [.ref (L n)] u (ms_of (lp ++ cs_X3 n)) (fu_X3 u n) 25 1219 := by
  refine ms_enterC (lv := [(0, .ref (L n))]) (by decide) rfl (Nat.le_of_ble_eq_true rfl) rfl ?_
  intro p e s m args below meth c A C hr hlocks hin2
  have hL : ∀ i, i < n + 1 → L i = L i := fun _ _ => rfl
  refine a_aload_n C dX3_init_0 rfl 0 rfl rfl ?_
  refine a_obj C kw_1_209 kw_1_33 kw_1_34 dX3_init_1 (Nat.le_of_ble_eq_true rfl) (Nat.le_of_ble_eq_true rfl) rfl ?_
  refine a_aload_n C dX3_init_4 rfl 0 rfl rfl ?_
  refine b_newC (ci := 7) (n0 := n + 1) (lvf := fun L => [(0, .ref (L n))]) (stf := fun L => [.ref (L n)]) C (by rw [List.length_append, List.length_cons, hn]; rfl) rfl in7 rfl (by decide) tyX7 tyX7_ok rfl df_7 kw_1_210 kw_1_36 kw_1_2 hz (Nat.le_of_ble_eq_true rfl) (Nat.le_of_ble_eq_true rfl) dX3_init_5 (fun L' g => by rw [g n (by omega)]) (fun L' g => by rw [g n (by omega)]) rfl (fun L1 g1 => ?_)
  have hL : ∀ i, i < n + 1 → L1 i = L i := fun i hi => (g1 i (by omega)).trans (hL i hi)
  refine a_dup C dX3_init_8 rfl rfl ?_
  have hz := ms_zz_le hz (Nat.le_succ _)
  refine a_callCN (lvf := fun L => [(0, .ref (L n))]) (stf := fun L => [.ref (L (n + 1)), .ref (L n)]) C (ci_X7 l G cy L1 (lp ++ (3, 0, (fun _ => none)) :: ([])) (n + 1) (by rw [List.length_append, List.length_cons, hn]; rfl) u hz) (List.mem_of_getElem? (i := 5) rfl) kw_1_38 kw_1_2 kw_1_39 rfl rfl rfl pd_X7_init ⟨(Nat.le_of_ble_eq_true rfl), (Nat.le_of_ble_eq_true rfl)⟩ dX3_init_9 (z9 := n + 1 + 1) (by rw [ms_of_Z, List.length_append, List.length_append, List.length_cons, hn]; rfl) (fun L' g => by rw [g n (by omega)]) (fun L' g => by rw [g n (by omega), g (n + 1) (by omega)]) (Nat.le_of_ble_eq_true rfl) ⟨(Nat.le_of_ble_eq_true rfl), (Nat.le_of_ble_eq_true rfl)⟩ rfl (fun L2 g2 => ?_)
  have hL : ∀ i, i < n + 1 → L2 i = L i := fun i hi => (g2 i (by omega)).trans (hL i hi)
  refine a_E (E2 := ms_of (lp ++ (3, 0, (fun _ => none)) :: (cs_X7 (n + 1)))) (congrArg ms_of (by simp)) ?_
  have hz : ms_zz (n + 21) (fu_X7 u (n + 1)) := fz_X7 hz
  refine b_putC (ci := 3) (k := 0) (b := (n + 1)) C in3 rfl (by decide) tyX3 tyX3_ok nmX3 hn dX3_init_12 (by decide) (by decide) rfl kw_2_16 rfl hin2 rfl (tyX3_ok 0 (by decide)) rfl rfl (by show _ < n + 1 + _; exact Nat.lt_of_lt_of_le (show (n + 1) < n + 1 + 20 by omega) (Nat.le_refl _)) rfl ?_
  refine a_aload_n C dX3_init_15 rfl 0 rfl rfl ?_
  refine a_iconst (v := (-1)) C dX3_init_16 (by decide) rfl ?_
  refine s_3_1 C dX3_init_17 (ms_oat hn) kw_2_18 rfl ?_
  have hz := ms_zz_sI (k := 1) (v := (-1)) hz (show n < _ by omega)
  refine a_aload_n C dX3_init_20 rfl 0 rfl rfl ?_
  refine a_iconst (v := 0) C dX3_init_21 (by decide) rfl ?_
  refine s_3_2 C dX3_init_22 (ms_oat hn) kw_2_20 rfl ?_
  have hz := ms_zz_sI (k := 2) (v := 0) hz (show n < _ by omega)
  refine a_aload_n C dX3_init_25 rfl 0 rfl rfl ?_
  refine b_newC (ci := 6) (n0 := n + 21) (lvf := fun L => [(0, .ref (L n))]) (stf := fun L => [.ref (L n)]) C (by rw [List.length_append, List.length_cons, hn]; rfl) rfl in6 rfl (by decide) tyX6 tyX6_ok rfl df_6 kw_1_212 kw_1_213 kw_1_7 hz (Nat.le_of_ble_eq_true rfl) (Nat.le_of_ble_eq_true rfl) dX3_init_26 (fun L' g => by rw [g n (by omega)]) (fun L' g => by rw [g n (by omega)]) rfl (fun L3 g3 => ?_)
  have hL : ∀ i, i < n + 1 → L3 i = L i := fun i hi => (g3 i (by omega)).trans (hL i hi)
  refine a_dup C dX3_init_29 rfl rfl ?_
  have hz := ms_zz_le hz (Nat.le_succ _)
  refine a_callCN (lvf := fun L => [(0, .ref (L n))]) (stf := fun L => [.ref (L (n + 21)), .ref (L n)]) C (ci_X6 l G cy L3 (lp ++ (3, 0, (va_up (fun _ => none) 0 (some (n + 1)))) :: (cs_X7 (n + 1))) (n + 21) (by rw [List.length_append, List.length_cons, hn]; rfl) (by omega) (ms_sI (ms_sI (fu_X7 u (n + 1)) n 1 (-1)) n 2 0) hz) (List.mem_of_getElem? (i := 6) rfl) kw_1_215 kw_1_7 kw_1_216 rfl rfl rfl pd_X6_init ⟨(Nat.le_of_ble_eq_true rfl), (Nat.le_of_ble_eq_true rfl)⟩ dX3_init_30 (z9 := n + 21 + 1) (by rw [ms_of_Z, List.length_append, List.length_append, List.length_cons, hn]; rfl) (fun L' g => by rw [g n (by omega)]) (fun L' g => by rw [g n (by omega), g (n + 21) (by omega)]) (Nat.le_of_ble_eq_true rfl) ⟨(Nat.le_of_ble_eq_true rfl), (Nat.le_of_ble_eq_true rfl)⟩ rfl (fun L4 g4 => ?_)
  have hL : ∀ i, i < n + 1 → L4 i = L i := fun i hi => (g4 i (by omega)).trans (hL i hi)
  refine a_E (E2 := ms_of (lp ++ (3, 0, (va_up (fun _ => none) 0 (some (n + 1)))) :: (cs_X7 (n + 1) ++ (cs_X6 (n + 21))))) (congrArg ms_of (by simp)) ?_
  have hz : ms_zz (n + 23) (fu_X6 (ms_sI (ms_sI (fu_X7 u (n + 1)) n 1 (-1)) n 2 0) (n + 21)) := fz_X6 hz
  refine b_putC (ci := 3) (k := 3) (b := (n + 21)) C in3 rfl (by decide) tyX3 tyX3_ok nmX3 hn dX3_init_33 (by decide) (by decide) rfl kw_2_21 rfl hin2 rfl (tyX3_ok 3 (by decide)) rfl rfl (by show _ < n + 1 + _; exact Nat.lt_of_lt_of_le (show (n + 21) < n + 1 + 22 by omega) (Nat.le_refl _)) rfl ?_
  refine a_aload_n C dX3_init_36 rfl 0 rfl rfl ?_
  refine b_newC (ci := 8) (n0 := n + 23) (lvf := fun L => [(0, .ref (L n))]) (stf := fun L => [.ref (L n)]) C (by rw [List.length_append, List.length_cons, hn]; rfl) rfl in8 rfl (by decide) tyX8 tyX8_ok rfl df_8 kw_2_0 kw_2_1 kw_1_8 hz (Nat.le_of_ble_eq_true rfl) (Nat.le_of_ble_eq_true rfl) dX3_init_37 (fun L' g => by rw [g n (by omega)]) (fun L' g => by rw [g n (by omega)]) rfl (fun L5 g5 => ?_)
  have hL : ∀ i, i < n + 1 → L5 i = L i := fun i hi => (g5 i (by omega)).trans (hL i hi)
  refine a_dup C dX3_init_40 rfl rfl ?_
  have hz := ms_zz_le hz (Nat.le_succ _)
  refine a_callCN (lvf := fun L => [(0, .ref (L n))]) (stf := fun L => [.ref (L (n + 23)), .ref (L n)]) C (ci_X8 l G cy L5 (lp ++ (3, 0, (va_up (va_up (fun _ => none) 0 (some (n + 1))) 3 (some (n + 21)))) :: (cs_X7 (n + 1) ++ (cs_X6 (n + 21)))) (n + 23) (by rw [List.length_append, List.length_cons, hn]; rfl) (fu_X6 (ms_sI (ms_sI (fu_X7 u (n + 1)) n 1 (-1)) n 2 0) (n + 21)) hz) (List.mem_of_getElem? (i := 7) rfl) kw_2_3 kw_1_8 kw_2_4 rfl rfl rfl pd_X8_init ⟨(Nat.le_of_ble_eq_true rfl), (Nat.le_of_ble_eq_true rfl)⟩ dX3_init_41 (z9 := n + 23 + 1) (by rw [ms_of_Z, List.length_append, List.length_append, List.length_cons, hn]; rfl) (fun L' g => by rw [g n (by omega)]) (fun L' g => by rw [g n (by omega), g (n + 23) (by omega)]) (Nat.le_of_ble_eq_true rfl) ⟨(Nat.le_of_ble_eq_true rfl), (Nat.le_of_ble_eq_true rfl)⟩ rfl (fun L6 g6 => ?_)
  have hL : ∀ i, i < n + 1 → L6 i = L i := fun i hi => (g6 i (by omega)).trans (hL i hi)
  refine a_E (E2 := ms_of (lp ++ (3, 0, (va_up (va_up (fun _ => none) 0 (some (n + 1))) 3 (some (n + 21)))) :: (cs_X7 (n + 1) ++ (cs_X6 (n + 21) ++ (cs_X8 (n + 23)))))) (congrArg ms_of (by simp)) ?_
  have hz : ms_zz (n + 26) (fu_X8 (fu_X6 (ms_sI (ms_sI (fu_X7 u (n + 1)) n 1 (-1)) n 2 0) (n + 21)) (n + 23)) := fz_X8 hz
  refine b_putC (ci := 3) (k := 4) (b := (n + 23)) C in3 rfl (by decide) tyX3 tyX3_ok nmX3 hn dX3_init_44 (by decide) (by decide) rfl kw_2_22 rfl hin2 rfl (tyX3_ok 4 (by decide)) rfl rfl (by show _ < n + 1 + _; exact Nat.lt_of_lt_of_le (show (n + 23) < n + 1 + 25 by omega) (Nat.le_refl _)) rfl ?_
  refine a_aload_n C dX3_init_47 rfl 0 rfl rfl ?_
  refine a_iconst (v := 0) C dX3_init_48 (by decide) rfl ?_
  refine s_3_5 C dX3_init_49 (ms_oat hn) kw_2_23 rfl rfl rfl ?_
  have hz := ms_zz_sI (k := 5) (v := 0) hz (show n < _ by omega)
  refine a_aload_n C dX3_init_52 rfl 0 rfl rfl ?_
  refine a_iconst (v := 0) C dX3_init_53 (by decide) rfl ?_
  refine s_3_6 C dX3_init_54 (ms_oat hn) kw_2_24 rfl rfl rfl ?_
  have hz := ms_zz_sI (k := 6) (v := 0) hz (show n < _ by omega)
  refine a_aload_n C dX3_init_57 rfl 0 rfl rfl ?_
  refine a_iconst (v := 0) C dX3_init_58 (by decide) rfl ?_
  refine s_3_7 C dX3_init_59 (ms_oat hn) kw_2_25 rfl rfl rfl ?_
  have hz := ms_zz_sI (k := 7) (v := 0) hz (show n < _ by omega)
  exact a_cret C dX3_init_62 hr hlocks (Nat.le_of_ble_eq_true rfl) (Nat.le_of_ble_eq_true rfl) rfl rfl (by rw [ms_of_Z, List.length_append, hn]; exact hL)

/-! the constructor of CensusWalk$Routes -/
theorem pd_X1_init : (⟨"CensusWalk$Routes", "<init>", "()V"⟩ : MethodName).cls ≠ "java/lang/invoke/MethodHandle" ∧ (⟨"CensusWalk$Routes", "<init>", "()V"⟩ : MethodName).cls ≠ "java/lang/invoke/VarHandle" ∧ (parseMethodDescriptor (⟨"CensusWalk$Routes", "<init>", "()V"⟩ : MethodName).desc).map (fun d => d.parameters.length) = some 0 := by decide +kernel
def cs_X1 (n : Nat) : List ms_Ce := (1, 0, (va_up (fun _ => none) 0 (some (n + 1)))) :: ([(13, 100, fun _ => none)])
def fu_X1 (u : ms_St) (n : Nat) : ms_St := u
theorem fz_X1 {n : Nat} {u : ms_St} (h : ms_zz (n + 1) u) : ms_zz (n + 2) (fu_X1 u n) := by
  unfold fu_X1
  exact ms_zz_le h (by omega)
set_option maxHeartbeats 4000000 in
set_option maxRecDepth 100000 in
theorem ci_X1 (l : Launch) (G : va_G) (cy : Nat → ClassId) (L : Nat → Nat) (lp : List ms_Ce) (n : Nat) (hn : lp.length = n) (u : ms_St) (hz : ms_zz (n + 1) u) : ms_MetC l ⟨"CensusWalk$Routes", "<init>", "()V"⟩ (Cond.code ⟨"CensusWalk$Routes", "<init>", "()V"⟩ prog_3_method_1_code 1 none :: lw_g) ({ frames := 1, cells := 1, slots := 100, locals := 40 } : Room) G cy L (ms_of (lp ++ [(1, 0, fun _ => none)])) [.ref (L n)] u (ms_of (lp ++ cs_X1 n)) (fu_X1 u n) 1 100 := by
  refine ms_enterC (lv := [(0, .ref (L n))]) (by decide) rfl (Nat.le_of_ble_eq_true rfl) rfl ?_
  intro p e s m args below meth c A C hr hlocks hin2
  have hL : ∀ i, i < n + 1 → L i = L i := fun _ _ => rfl
  refine a_aload_n C dX1_init_0 rfl 0 rfl rfl ?_
  refine a_obj C kw_2_48 kw_1_33 kw_1_34 dX1_init_1 (Nat.le_of_ble_eq_true rfl) (Nat.le_of_ble_eq_true rfl) rfl ?_
  refine a_aload_n C dX1_init_4 rfl 0 rfl rfl ?_
  refine a_bipush (v := 100) C dX1_init_5 (by decide) rfl ?_
  refine b_newI (N' := 100) (n0 := n + 1) (l1 := lp ++ (1, 0, (fun _ => none)) :: ([(13, 100, fun _ => none)])) (lvf := fun L => [(0, .ref (L n))]) (stf := fun L => [.ref (L n)]) C (by rw [List.length_append, List.length_cons, hn]; rfl) (by simp) kw_1_74 hz (by decide) (by decide) (Nat.le_of_ble_eq_true rfl) (Nat.le_of_ble_eq_true rfl) (Nat.le_of_ble_eq_true rfl) dX1_init_7 (fun L' g => by rw [g n (by omega)]) (fun L' g => by rw [g n (by omega)]) rfl (fun L1 g1 => ?_)
  have hL : ∀ i, i < n + 1 → L1 i = L i := fun i hi => (g1 i (by omega)).trans (hL i hi)
  have hz := ms_zz_le hz (Nat.le_succ _)
  refine b_putC (ci := 1) (k := 0) (b := (n + 1)) C in1 rfl (by decide) tyX1 tyX1_ok nmX1 hn dX1_init_9 (by decide) (by decide) rfl kw_2_49 rfl hin2 rfl (tyX1_ok 0 (by decide)) rfl rfl (by show _ < n + 1 + _; exact Nat.lt_of_lt_of_le (show (n + 1) < n + 1 + 1 by omega) (Nat.le_refl _)) rfl ?_
  exact a_cret C dX1_init_12 hr hlocks (Nat.le_of_ble_eq_true rfl) (Nat.le_of_ble_eq_true rfl) rfl rfl (by rw [ms_of_Z, List.length_append, hn]; exact hL)

/-! the constructor of CensusWalk$Simulation -/
theorem pd_X4_init : (⟨"CensusWalk$Simulation", "<init>", "()V"⟩ : MethodName).cls ≠ "java/lang/invoke/MethodHandle" ∧ (⟨"CensusWalk$Simulation", "<init>", "()V"⟩ : MethodName).cls ≠ "java/lang/invoke/VarHandle" ∧ (parseMethodDescriptor (⟨"CensusWalk$Simulation", "<init>", "()V"⟩ : MethodName).desc).map (fun d => d.parameters.length) = some 0 := by decide +kernel
def cs_X4 (n : Nat) : List ms_Ce := (4, 0, (va_up (va_up (va_up (va_up (va_up (va_up (va_up (va_up (fun _ => none) 0 (some (n + 1))) 1 (some (n + 2))) 2 (some (n + 3))) 3 (some (n + 4))) 5 (some (n + 5))) 6 (some (n + 6))) 7 (some (n + 7))) 8 (some (n + 8)))) :: ([(13, 36, fun _ => none)] ++ ([(13, 36, fun _ => none)] ++ ([(13, 3, fun _ => none)] ++ ([(13, 16, fun _ => none)] ++ ([(13, 16, fun _ => none)] ++ ([(13, 3, fun _ => none)] ++ ([(13, 3, fun _ => none)] ++ ([(13, 3, fun _ => none)]))))))))
def fu_X4 (u : ms_St) (n : Nat) : ms_St := (ms_sI u n 4 0)
theorem fz_X4 {n : Nat} {u : ms_St} (h : ms_zz (n + 1) u) : ms_zz (n + 9) (fu_X4 u n) := by
  unfold fu_X4
  replace h := ms_zz_sI (k := 4) (v := 0) h (show n < _ by omega)
  exact ms_zz_le h (by omega)
set_option maxHeartbeats 4000000 in
set_option maxRecDepth 100000 in
theorem ci_X4 (l : Launch) (G : va_G) (cy : Nat → ClassId) (L : Nat → Nat) (lp : List ms_Ce) (n : Nat) (hn : lp.length = n) (u : ms_St) (hz : ms_zz (n + 1) u) : ms_MetC l ⟨"CensusWalk$Simulation", "<init>", "()V"⟩ (Cond.code ⟨"CensusWalk$Simulation", "<init>", "()V"⟩ prog_6_method_1_code 1 none :: lw_g) ({ frames := 1, cells := 8, slots := 116, locals := 40 } : Room) G cy L (ms_of (lp ++ [(4, 0, fun _ => none)])) [.ref (L n)] u (ms_of (lp ++ cs_X4 n)) (fu_X4 u n) 8 116 := by
  refine ms_enterC (lv := [(0, .ref (L n))]) (by decide) rfl (Nat.le_of_ble_eq_true rfl) rfl ?_
  intro p e s m args below meth c A C hr hlocks hin2
  have hL : ∀ i, i < n + 1 → L i = L i := fun _ _ => rfl
  refine a_aload_n C dX4_init_0 rfl 0 rfl rfl ?_
  refine a_obj C kw_2_58 kw_1_33 kw_1_34 dX4_init_1 (Nat.le_of_ble_eq_true rfl) (Nat.le_of_ble_eq_true rfl) rfl ?_
  refine a_aload_n C dX4_init_4 rfl 0 rfl rfl ?_
  refine a_bipush (v := 36) C dX4_init_5 (by decide) rfl ?_
  refine b_newI (N' := 36) (n0 := n + 1) (l1 := lp ++ (4, 0, (fun _ => none)) :: ([(13, 36, fun _ => none)])) (lvf := fun L => [(0, .ref (L n))]) (stf := fun L => [.ref (L n)]) C (by rw [List.length_append, List.length_cons, hn]; rfl) (by simp) kw_1_74 hz (by decide) (by decide) (Nat.le_of_ble_eq_true rfl) (Nat.le_of_ble_eq_true rfl) (Nat.le_of_ble_eq_true rfl) dX4_init_7 (fun L' g => by rw [g n (by omega)]) (fun L' g => by rw [g n (by omega)]) rfl (fun L1 g1 => ?_)
  have hL : ∀ i, i < n + 1 → L1 i = L i := fun i hi => (g1 i (by omega)).trans (hL i hi)
  have hz := ms_zz_le hz (Nat.le_succ _)
  refine b_putC (ci := 4) (k := 0) (b := (n + 1)) C in4 rfl (by decide) tyX4 tyX4_ok nmX4 hn dX4_init_9 (by decide) (by decide) rfl kw_2_59 rfl hin2 rfl (tyX4_ok 0 (by decide)) rfl rfl (by show _ < n + 1 + _; exact Nat.lt_of_lt_of_le (show (n + 1) < n + 1 + 1 by omega) (Nat.le_refl _)) rfl ?_
  refine a_aload_n C dX4_init_12 rfl 0 rfl rfl ?_
  refine a_bipush (v := 36) C dX4_init_13 (by decide) rfl ?_
  refine b_newI (N' := 36) (n0 := n + 2) (l1 := lp ++ (4, 0, (va_up (fun _ => none) 0 (some (n + 1)))) :: ([(13, 36, fun _ => none)] ++ ([(13, 36, fun _ => none)]))) (lvf := fun L => [(0, .ref (L n))]) (stf := fun L => [.ref (L n)]) C (by rw [List.length_append, List.length_cons, hn]; rfl) (by simp) kw_1_74 hz (by decide) (by decide) (Nat.le_of_ble_eq_true rfl) (Nat.le_of_ble_eq_true rfl) (Nat.le_of_ble_eq_true rfl) dX4_init_15 (fun L' g => by rw [g n (by omega)]) (fun L' g => by rw [g n (by omega)]) rfl (fun L2 g2 => ?_)
  have hL : ∀ i, i < n + 1 → L2 i = L i := fun i hi => (g2 i (by omega)).trans (hL i hi)
  have hz := ms_zz_le hz (Nat.le_succ _)
  refine b_putC (ci := 4) (k := 1) (b := (n + 2)) C in4 rfl (by decide) tyX4 tyX4_ok nmX4 hn dX4_init_17 (by decide) (by decide) rfl kw_2_61 rfl hin2 rfl (tyX4_ok 1 (by decide)) rfl rfl (by show _ < n + 1 + _; exact Nat.lt_of_lt_of_le (show (n + 2) < n + 1 + 2 by omega) (Nat.le_refl _)) rfl ?_
  refine a_aload_n C dX4_init_20 rfl 0 rfl rfl ?_
  refine a_iconst (v := 3) C dX4_init_21 (by decide) rfl ?_
  refine b_newI (N' := 3) (n0 := n + 3) (l1 := lp ++ (4, 0, (va_up (va_up (fun _ => none) 0 (some (n + 1))) 1 (some (n + 2)))) :: ([(13, 36, fun _ => none)] ++ ([(13, 36, fun _ => none)] ++ ([(13, 3, fun _ => none)])))) (lvf := fun L => [(0, .ref (L n))]) (stf := fun L => [.ref (L n)]) C (by rw [List.length_append, List.length_cons, hn]; rfl) (by simp) kw_1_74 hz (by decide) (by decide) (Nat.le_of_ble_eq_true rfl) (Nat.le_of_ble_eq_true rfl) (Nat.le_of_ble_eq_true rfl) dX4_init_22 (fun L' g => by rw [g n (by omega)]) (fun L' g => by rw [g n (by omega)]) rfl (fun L3 g3 => ?_)
  have hL : ∀ i, i < n + 1 → L3 i = L i := fun i hi => (g3 i (by omega)).trans (hL i hi)
  have hz := ms_zz_le hz (Nat.le_succ _)
  refine b_putC (ci := 4) (k := 2) (b := (n + 3)) C in4 rfl (by decide) tyX4 tyX4_ok nmX4 hn dX4_init_24 (by decide) (by decide) rfl kw_2_63 rfl hin2 rfl (tyX4_ok 2 (by decide)) rfl rfl (by show _ < n + 1 + _; exact Nat.lt_of_lt_of_le (show (n + 3) < n + 1 + 3 by omega) (Nat.le_refl _)) rfl ?_
  refine a_aload_n C dX4_init_27 rfl 0 rfl rfl ?_
  refine a_bipush (v := 16) C dX4_init_28 (by decide) rfl ?_
  refine b_newI (N' := 16) (n0 := n + 4) (l1 := lp ++ (4, 0, (va_up (va_up (va_up (fun _ => none) 0 (some (n + 1))) 1 (some (n + 2))) 2 (some (n + 3)))) :: ([(13, 36, fun _ => none)] ++ ([(13, 36, fun _ => none)] ++ ([(13, 3, fun _ => none)] ++ ([(13, 16, fun _ => none)]))))) (lvf := fun L => [(0, .ref (L n))]) (stf := fun L => [.ref (L n)]) C (by rw [List.length_append, List.length_cons, hn]; rfl) (by simp) kw_1_74 hz (by decide) (by decide) (Nat.le_of_ble_eq_true rfl) (Nat.le_of_ble_eq_true rfl) (Nat.le_of_ble_eq_true rfl) dX4_init_30 (fun L' g => by rw [g n (by omega)]) (fun L' g => by rw [g n (by omega)]) rfl (fun L4 g4 => ?_)
  have hL : ∀ i, i < n + 1 → L4 i = L i := fun i hi => (g4 i (by omega)).trans (hL i hi)
  have hz := ms_zz_le hz (Nat.le_succ _)
  refine b_putC (ci := 4) (k := 3) (b := (n + 4)) C in4 rfl (by decide) tyX4 tyX4_ok nmX4 hn dX4_init_32 (by decide) (by decide) rfl kw_2_65 rfl hin2 rfl (tyX4_ok 3 (by decide)) rfl rfl (by show _ < n + 1 + _; exact Nat.lt_of_lt_of_le (show (n + 4) < n + 1 + 4 by omega) (Nat.le_refl _)) rfl ?_
  refine a_aload_n C dX4_init_35 rfl 0 rfl rfl ?_
  refine a_iconst (v := 0) C dX4_init_36 (by decide) rfl ?_
  refine s_4_4 C dX4_init_37 (ms_oat hn) kw_2_67 rfl ?_
  have hz := ms_zz_sI (k := 4) (v := 0) hz (show n < _ by omega)
  refine a_aload_n C dX4_init_40 rfl 0 rfl rfl ?_
  refine a_bipush (v := 16) C dX4_init_41 (by decide) rfl ?_
  refine b_newI (N' := 16) (n0 := n + 5) (l1 := lp ++ (4, 0, (va_up (va_up (va_up (va_up (fun _ => none) 0 (some (n + 1))) 1 (some (n + 2))) 2 (some (n + 3))) 3 (some (n + 4)))) :: ([(13, 36, fun _ => none)] ++ ([(13, 36, fun _ => none)] ++ ([(13, 3, fun _ => none)] ++ ([(13, 16, fun _ => none)] ++ ([(13, 16, fun _ => none)])))))) (lvf := fun L => [(0, .ref (L n))]) (stf := fun L => [.ref (L n)]) C (by rw [List.length_append, List.length_cons, hn]; rfl) (by simp) kw_1_74 hz (by decide) (by decide) (Nat.le_of_ble_eq_true rfl) (Nat.le_of_ble_eq_true rfl) (Nat.le_of_ble_eq_true rfl) dX4_init_43 (fun L' g => by rw [g n (by omega)]) (fun L' g => by rw [g n (by omega)]) rfl (fun L5 g5 => ?_)
  have hL : ∀ i, i < n + 1 → L5 i = L i := fun i hi => (g5 i (by omega)).trans (hL i hi)
  have hz := ms_zz_le hz (Nat.le_succ _)
  refine b_putC (ci := 4) (k := 5) (b := (n + 5)) C in4 rfl (by decide) tyX4 tyX4_ok nmX4 hn dX4_init_45 (by decide) (by decide) rfl kw_2_69 rfl hin2 rfl (tyX4_ok 5 (by decide)) rfl rfl (by show _ < n + 1 + _; exact Nat.lt_of_lt_of_le (show (n + 5) < n + 1 + 5 by omega) (Nat.le_refl _)) rfl ?_
  refine a_aload_n C dX4_init_48 rfl 0 rfl rfl ?_
  refine a_iconst (v := 3) C dX4_init_49 (by decide) rfl ?_
  refine b_newI (N' := 3) (n0 := n + 6) (l1 := lp ++ (4, 0, (va_up (va_up (va_up (va_up (va_up (fun _ => none) 0 (some (n + 1))) 1 (some (n + 2))) 2 (some (n + 3))) 3 (some (n + 4))) 5 (some (n + 5)))) :: ([(13, 36, fun _ => none)] ++ ([(13, 36, fun _ => none)] ++ ([(13, 3, fun _ => none)] ++ ([(13, 16, fun _ => none)] ++ ([(13, 16, fun _ => none)] ++ ([(13, 3, fun _ => none)]))))))) (lvf := fun L => [(0, .ref (L n))]) (stf := fun L => [.ref (L n)]) C (by rw [List.length_append, List.length_cons, hn]; rfl) (by simp) kw_1_74 hz (by decide) (by decide) (Nat.le_of_ble_eq_true rfl) (Nat.le_of_ble_eq_true rfl) (Nat.le_of_ble_eq_true rfl) dX4_init_50 (fun L' g => by rw [g n (by omega)]) (fun L' g => by rw [g n (by omega)]) rfl (fun L6 g6 => ?_)
  have hL : ∀ i, i < n + 1 → L6 i = L i := fun i hi => (g6 i (by omega)).trans (hL i hi)
  have hz := ms_zz_le hz (Nat.le_succ _)
  refine b_putC (ci := 4) (k := 6) (b := (n + 6)) C in4 rfl (by decide) tyX4 tyX4_ok nmX4 hn dX4_init_52 (by decide) (by decide) rfl kw_2_70 rfl hin2 rfl (tyX4_ok 6 (by decide)) rfl rfl (by show _ < n + 1 + _; exact Nat.lt_of_lt_of_le (show (n + 6) < n + 1 + 6 by omega) (Nat.le_refl _)) rfl ?_
  refine a_aload_n C dX4_init_55 rfl 0 rfl rfl ?_
  refine a_iconst (v := 3) C dX4_init_56 (by decide) rfl ?_
  refine b_newI (N' := 3) (n0 := n + 7) (l1 := lp ++ (4, 0, (va_up (va_up (va_up (va_up (va_up (va_up (fun _ => none) 0 (some (n + 1))) 1 (some (n + 2))) 2 (some (n + 3))) 3 (some (n + 4))) 5 (some (n + 5))) 6 (some (n + 6)))) :: ([(13, 36, fun _ => none)] ++ ([(13, 36, fun _ => none)] ++ ([(13, 3, fun _ => none)] ++ ([(13, 16, fun _ => none)] ++ ([(13, 16, fun _ => none)] ++ ([(13, 3, fun _ => none)] ++ ([(13, 3, fun _ => none)])))))))) (lvf := fun L => [(0, .ref (L n))]) (stf := fun L => [.ref (L n)]) C (by rw [List.length_append, List.length_cons, hn]; rfl) (by simp) kw_1_74 hz (by decide) (by decide) (Nat.le_of_ble_eq_true rfl) (Nat.le_of_ble_eq_true rfl) (Nat.le_of_ble_eq_true rfl) dX4_init_57 (fun L' g => by rw [g n (by omega)]) (fun L' g => by rw [g n (by omega)]) rfl (fun L7 g7 => ?_)
  have hL : ∀ i, i < n + 1 → L7 i = L i := fun i hi => (g7 i (by omega)).trans (hL i hi)
  have hz := ms_zz_le hz (Nat.le_succ _)
  refine b_putC (ci := 4) (k := 7) (b := (n + 7)) C in4 rfl (by decide) tyX4 tyX4_ok nmX4 hn dX4_init_59 (by decide) (by decide) rfl kw_2_71 rfl hin2 rfl (tyX4_ok 7 (by decide)) rfl rfl (by show _ < n + 1 + _; exact Nat.lt_of_lt_of_le (show (n + 7) < n + 1 + 7 by omega) (Nat.le_refl _)) rfl ?_
  refine a_aload_n C dX4_init_62 rfl 0 rfl rfl ?_
  refine a_iconst (v := 3) C dX4_init_63 (by decide) rfl ?_
  refine b_newI (N' := 3) (n0 := n + 8) (l1 := lp ++ (4, 0, (va_up (va_up (va_up (va_up (va_up (va_up (va_up (fun _ => none) 0 (some (n + 1))) 1 (some (n + 2))) 2 (some (n + 3))) 3 (some (n + 4))) 5 (some (n + 5))) 6 (some (n + 6))) 7 (some (n + 7)))) :: ([(13, 36, fun _ => none)] ++ ([(13, 36, fun _ => none)] ++ ([(13, 3, fun _ => none)] ++ ([(13, 16, fun _ => none)] ++ ([(13, 16, fun _ => none)] ++ ([(13, 3, fun _ => none)] ++ ([(13, 3, fun _ => none)] ++ ([(13, 3, fun _ => none)]))))))))) (lvf := fun L => [(0, .ref (L n))]) (stf := fun L => [.ref (L n)]) C (by rw [List.length_append, List.length_cons, hn]; rfl) (by simp) kw_1_74 hz (by decide) (by decide) (Nat.le_of_ble_eq_true rfl) (Nat.le_of_ble_eq_true rfl) (Nat.le_of_ble_eq_true rfl) dX4_init_64 (fun L' g => by rw [g n (by omega)]) (fun L' g => by rw [g n (by omega)]) rfl (fun L8 g8 => ?_)
  have hL : ∀ i, i < n + 1 → L8 i = L i := fun i hi => (g8 i (by omega)).trans (hL i hi)
  have hz := ms_zz_le hz (Nat.le_succ _)
  refine b_putC (ci := 4) (k := 8) (b := (n + 8)) C in4 rfl (by decide) tyX4 tyX4_ok nmX4 hn dX4_init_66 (by decide) (by decide) rfl kw_2_72 rfl hin2 rfl (tyX4_ok 8 (by decide)) rfl rfl (by show _ < n + 1 + _; exact Nat.lt_of_lt_of_le (show (n + 8) < n + 1 + 8 by omega) (Nat.le_refl _)) rfl ?_
  exact a_cret C dX4_init_69 hr hlocks (Nat.le_of_ble_eq_true rfl) (Nat.le_of_ble_eq_true rfl) rfl rfl (by rw [ms_of_Z, List.length_append, hn]; exact hL)

/-! the constructor of CensusWalk$Search -/
theorem pd_X2_init : (⟨"CensusWalk$Search", "<init>", "()V"⟩ : MethodName).cls ≠ "java/lang/invoke/MethodHandle" ∧ (⟨"CensusWalk$Search", "<init>", "()V"⟩ : MethodName).cls ≠ "java/lang/invoke/VarHandle" ∧ (parseMethodDescriptor (⟨"CensusWalk$Search", "<init>", "()V"⟩ : MethodName).desc).map (fun d => d.parameters.length) = some 0 := by decide +kernel
def cs_X2 (n : Nat) : List ms_Ce := (2, 0, (va_up (va_up (va_up (va_up (va_up (va_up (va_up (va_up (va_up (va_up (va_up (va_up (fun _ => none) 1 (some (n + 1))) 3 (some (n + 2))) 4 (some (n + 3))) 5 (some (n + 4))) 6 (some (n + 5))) 7 (some (n + 6))) 8 (some (n + 7))) 10 (some (n + 8))) 11 (some (n + 9))) 12 (some (n + 10))) 13 (some (n + 11))) 14 (some (n + 12)))) :: ([(13, 8, fun _ => none)] ++ ([(13, 8, fun _ => none)] ++ ([(13, 8, fun _ => none)] ++ ([(13, 8, fun _ => none)] ++ ([(13, 8, fun _ => none)] ++ ([(13, 64, fun _ => none)] ++ ([(13, 8, fun _ => none)] ++ ([(13, 2048, fun _ => none)] ++ ([(13, 2048, fun _ => none)] ++ ([(13, 768, fun _ => none)] ++ ([(13, 3, fun _ => none)] ++ ([(13, 3, fun _ => none)]))))))))))))
def fu_X2 (u : ms_St) (n : Nat) : ms_St := (ms_sI (ms_sI (ms_sI (ms_sI u n 0 0) n 2 (-1)) n 9 0) n 15 0)
theorem fz_X2 {n : Nat} {u : ms_St} (h : ms_zz (n + 1) u) : ms_zz (n + 13) (fu_X2 u n) := by
  unfold fu_X2
  replace h := ms_zz_sI (k := 0) (v := 0) h (show n < _ by omega)
  replace h := ms_zz_sI (k := 2) (v := (-1)) h (show n < _ by omega)
  replace h := ms_zz_sI (k := 9) (v := 0) h (show n < _ by omega)
  replace h := ms_zz_sI (k := 15) (v := 0) h (show n < _ by omega)
  exact ms_zz_le h (by omega)
set_option maxHeartbeats 4000000 in
set_option maxRecDepth 100000 in
theorem ci_X2 (l : Launch) (G : va_G) (cy : Nat → ClassId) (L : Nat → Nat) (lp : List ms_Ce) (n : Nat) (hn : lp.length = n) (u : ms_St) (hz : ms_zz (n + 1) u) : ms_MetC l ⟨"CensusWalk$Search", "<init>", "()V"⟩ (Cond.code ⟨"CensusWalk$Search", "<init>", "()V"⟩ prog_4_method_1_code 1 none :: lw_g) ({ frames := 1, cells := 12, slots := 4982, locals := 40 } : Room) G cy L (ms_of (lp ++ [(2, 0, fun _ => none)])) [.ref (L n)] u (ms_of (lp ++ cs_X2 n)) (fu_X2 u n) 12 4982 := by
  refine ms_enterC (lv := [(0, .ref (L n))]) (by decide) rfl (Nat.le_of_ble_eq_true rfl) rfl ?_
  intro p e s m args below meth c A C hr hlocks hin2
  have hL : ∀ i, i < n + 1 → L i = L i := fun _ _ => rfl
  refine a_aload_n C dX2_init_0 rfl 0 rfl rfl ?_
  refine a_obj C kw_2_97 kw_1_33 kw_1_34 dX2_init_1 (Nat.le_of_ble_eq_true rfl) (Nat.le_of_ble_eq_true rfl) rfl ?_
  refine a_aload_n C dX2_init_4 rfl 0 rfl rfl ?_
  refine a_iconst (v := 0) C dX2_init_5 (by decide) rfl ?_
  refine s_2_0 C dX2_init_6 (ms_oat hn) kw_2_98 rfl ?_
  have hz := ms_zz_sI (k := 0) (v := 0) hz (show n < _ by omega)
  refine a_aload_n C dX2_init_9 rfl 0 rfl rfl ?_
  refine a_bipush (v := 8) C dX2_init_10 (by decide) rfl ?_
  refine b_newI (N' := 8) (n0 := n + 1) (l1 := lp ++ (2, 0, (fun _ => none)) :: ([(13, 8, fun _ => none)])) (lvf := fun L => [(0, .ref (L n))]) (stf := fun L => [.ref (L n)]) C (by rw [List.length_append, List.length_cons, hn]; rfl) (by simp) kw_1_74 hz (by decide) (by decide) (Nat.le_of_ble_eq_true rfl) (Nat.le_of_ble_eq_true rfl) (Nat.le_of_ble_eq_true rfl) dX2_init_12 (fun L' g => by rw [g n (by omega)]) (fun L' g => by rw [g n (by omega)]) rfl (fun L1 g1 => ?_)
  have hL : ∀ i, i < n + 1 → L1 i = L i := fun i hi => (g1 i (by omega)).trans (hL i hi)
  have hz := ms_zz_le hz (Nat.le_succ _)
  refine b_putC (ci := 2) (k := 1) (b := (n + 1)) C in2 rfl (by decide) tyX2 tyX2_ok nmX2 hn dX2_init_14 (by decide) (by decide) rfl kw_2_100 rfl hin2 rfl (tyX2_ok 1 (by decide)) rfl rfl (by show _ < n + 1 + _; exact Nat.lt_of_lt_of_le (show (n + 1) < n + 1 + 1 by omega) (Nat.le_refl _)) rfl ?_
  refine a_aload_n C dX2_init_17 rfl 0 rfl rfl ?_
  refine a_iconst (v := (-1)) C dX2_init_18 (by decide) rfl ?_
  refine s_2_2 C dX2_init_19 (ms_oat hn) kw_2_102 rfl ?_
  have hz := ms_zz_sI (k := 2) (v := (-1)) hz (show n < _ by omega)
  refine a_aload_n C dX2_init_22 rfl 0 rfl rfl ?_
  refine a_bipush (v := 8) C dX2_init_23 (by decide) rfl ?_
  refine b_newI (N' := 8) (n0 := n + 2) (l1 := lp ++ (2, 0, (va_up (fun _ => none) 1 (some (n + 1)))) :: ([(13, 8, fun _ => none)] ++ ([(13, 8, fun _ => none)]))) (lvf := fun L => [(0, .ref (L n))]) (stf := fun L => [.ref (L n)]) C (by rw [List.length_append, List.length_cons, hn]; rfl) (by simp) kw_1_74 hz (by decide) (by decide) (Nat.le_of_ble_eq_true rfl) (Nat.le_of_ble_eq_true rfl) (Nat.le_of_ble_eq_true rfl) dX2_init_25 (fun L' g => by rw [g n (by omega)]) (fun L' g => by rw [g n (by omega)]) rfl (fun L2 g2 => ?_)
  have hL : ∀ i, i < n + 1 → L2 i = L i := fun i hi => (g2 i (by omega)).trans (hL i hi)
  have hz := ms_zz_le hz (Nat.le_succ _)
  refine b_putC (ci := 2) (k := 3) (b := (n + 2)) C in2 rfl (by decide) tyX2 tyX2_ok nmX2 hn dX2_init_27 (by decide) (by decide) rfl kw_2_104 rfl hin2 rfl (tyX2_ok 3 (by decide)) rfl rfl (by show _ < n + 1 + _; exact Nat.lt_of_lt_of_le (show (n + 2) < n + 1 + 2 by omega) (Nat.le_refl _)) rfl ?_
  refine a_aload_n C dX2_init_30 rfl 0 rfl rfl ?_
  refine a_bipush (v := 8) C dX2_init_31 (by decide) rfl ?_
  refine b_newI (N' := 8) (n0 := n + 3) (l1 := lp ++ (2, 0, (va_up (va_up (fun _ => none) 1 (some (n + 1))) 3 (some (n + 2)))) :: ([(13, 8, fun _ => none)] ++ ([(13, 8, fun _ => none)] ++ ([(13, 8, fun _ => none)])))) (lvf := fun L => [(0, .ref (L n))]) (stf := fun L => [.ref (L n)]) C (by rw [List.length_append, List.length_cons, hn]; rfl) (by simp) kw_1_74 hz (by decide) (by decide) (Nat.le_of_ble_eq_true rfl) (Nat.le_of_ble_eq_true rfl) (Nat.le_of_ble_eq_true rfl) dX2_init_33 (fun L' g => by rw [g n (by omega)]) (fun L' g => by rw [g n (by omega)]) rfl (fun L3 g3 => ?_)
  have hL : ∀ i, i < n + 1 → L3 i = L i := fun i hi => (g3 i (by omega)).trans (hL i hi)
  have hz := ms_zz_le hz (Nat.le_succ _)
  refine b_putC (ci := 2) (k := 4) (b := (n + 3)) C in2 rfl (by decide) tyX2 tyX2_ok nmX2 hn dX2_init_35 (by decide) (by decide) rfl kw_2_105 rfl hin2 rfl (tyX2_ok 4 (by decide)) rfl rfl (by show _ < n + 1 + _; exact Nat.lt_of_lt_of_le (show (n + 3) < n + 1 + 3 by omega) (Nat.le_refl _)) rfl ?_
  refine a_aload_n C dX2_init_38 rfl 0 rfl rfl ?_
  refine a_bipush (v := 8) C dX2_init_39 (by decide) rfl ?_
  refine b_newI (N' := 8) (n0 := n + 4) (l1 := lp ++ (2, 0, (va_up (va_up (va_up (fun _ => none) 1 (some (n + 1))) 3 (some (n + 2))) 4 (some (n + 3)))) :: ([(13, 8, fun _ => none)] ++ ([(13, 8, fun _ => none)] ++ ([(13, 8, fun _ => none)] ++ ([(13, 8, fun _ => none)]))))) (lvf := fun L => [(0, .ref (L n))]) (stf := fun L => [.ref (L n)]) C (by rw [List.length_append, List.length_cons, hn]; rfl) (by simp) kw_1_74 hz (by decide) (by decide) (Nat.le_of_ble_eq_true rfl) (Nat.le_of_ble_eq_true rfl) (Nat.le_of_ble_eq_true rfl) dX2_init_41 (fun L' g => by rw [g n (by omega)]) (fun L' g => by rw [g n (by omega)]) rfl (fun L4 g4 => ?_)
  have hL : ∀ i, i < n + 1 → L4 i = L i := fun i hi => (g4 i (by omega)).trans (hL i hi)
  have hz := ms_zz_le hz (Nat.le_succ _)
  refine b_putC (ci := 2) (k := 5) (b := (n + 4)) C in2 rfl (by decide) tyX2 tyX2_ok nmX2 hn dX2_init_43 (by decide) (by decide) rfl kw_2_106 rfl hin2 rfl (tyX2_ok 5 (by decide)) rfl rfl (by show _ < n + 1 + _; exact Nat.lt_of_lt_of_le (show (n + 4) < n + 1 + 4 by omega) (Nat.le_refl _)) rfl ?_
  refine a_aload_n C dX2_init_46 rfl 0 rfl rfl ?_
  refine a_bipush (v := 8) C dX2_init_47 (by decide) rfl ?_
  refine b_newI (N' := 8) (n0 := n + 5) (l1 := lp ++ (2, 0, (va_up (va_up (va_up (va_up (fun _ => none) 1 (some (n + 1))) 3 (some (n + 2))) 4 (some (n + 3))) 5 (some (n + 4)))) :: ([(13, 8, fun _ => none)] ++ ([(13, 8, fun _ => none)] ++ ([(13, 8, fun _ => none)] ++ ([(13, 8, fun _ => none)] ++ ([(13, 8, fun _ => none)])))))) (lvf := fun L => [(0, .ref (L n))]) (stf := fun L => [.ref (L n)]) C (by rw [List.length_append, List.length_cons, hn]; rfl) (by simp) kw_1_74 hz (by decide) (by decide) (Nat.le_of_ble_eq_true rfl) (Nat.le_of_ble_eq_true rfl) (Nat.le_of_ble_eq_true rfl) dX2_init_49 (fun L' g => by rw [g n (by omega)]) (fun L' g => by rw [g n (by omega)]) rfl (fun L5 g5 => ?_)
  have hL : ∀ i, i < n + 1 → L5 i = L i := fun i hi => (g5 i (by omega)).trans (hL i hi)
  have hz := ms_zz_le hz (Nat.le_succ _)
  refine b_putC (ci := 2) (k := 6) (b := (n + 5)) C in2 rfl (by decide) tyX2 tyX2_ok nmX2 hn dX2_init_51 (by decide) (by decide) rfl kw_2_107 rfl hin2 rfl (tyX2_ok 6 (by decide)) rfl rfl (by show _ < n + 1 + _; exact Nat.lt_of_lt_of_le (show (n + 5) < n + 1 + 5 by omega) (Nat.le_refl _)) rfl ?_
  refine a_aload_n C dX2_init_54 rfl 0 rfl rfl ?_
  refine a_bipush (v := 64) C dX2_init_55 (by decide) rfl ?_
  refine b_newI (N' := 64) (n0 := n + 6) (l1 := lp ++ (2, 0, (va_up (va_up (va_up (va_up (va_up (fun _ => none) 1 (some (n + 1))) 3 (some (n + 2))) 4 (some (n + 3))) 5 (some (n + 4))) 6 (some (n + 5)))) :: ([(13, 8, fun _ => none)] ++ ([(13, 8, fun _ => none)] ++ ([(13, 8, fun _ => none)] ++ ([(13, 8, fun _ => none)] ++ ([(13, 8, fun _ => none)] ++ ([(13, 64, fun _ => none)]))))))) (lvf := fun L => [(0, .ref (L n))]) (stf := fun L => [.ref (L n)]) C (by rw [List.length_append, List.length_cons, hn]; rfl) (by simp) kw_1_74 hz (by decide) (by decide) (Nat.le_of_ble_eq_true rfl) (Nat.le_of_ble_eq_true rfl) (Nat.le_of_ble_eq_true rfl) dX2_init_57 (fun L' g => by rw [g n (by omega)]) (fun L' g => by rw [g n (by omega)]) rfl (fun L6 g6 => ?_)
  have hL : ∀ i, i < n + 1 → L6 i = L i := fun i hi => (g6 i (by omega)).trans (hL i hi)
  have hz := ms_zz_le hz (Nat.le_succ _)
  refine b_putC (ci := 2) (k := 7) (b := (n + 6)) C in2 rfl (by decide) tyX2 tyX2_ok nmX2 hn dX2_init_59 (by decide) (by decide) rfl kw_2_108 rfl hin2 rfl (tyX2_ok 7 (by decide)) rfl rfl (by show _ < n + 1 + _; exact Nat.lt_of_lt_of_le (show (n + 6) < n + 1 + 6 by omega) (Nat.le_refl _)) rfl ?_
  refine a_aload_n C dX2_init_62 rfl 0 rfl rfl ?_
  refine a_bipush (v := 8) C dX2_init_63 (by decide) rfl ?_
  refine b_newI (N' := 8) (n0 := n + 7) (l1 := lp ++ (2, 0, (va_up (va_up (va_up (va_up (va_up (va_up (fun _ => none) 1 (some (n + 1))) 3 (some (n + 2))) 4 (some (n + 3))) 5 (some (n + 4))) 6 (some (n + 5))) 7 (some (n + 6)))) :: ([(13, 8, fun _ => none)] ++ ([(13, 8, fun _ => none)] ++ ([(13, 8, fun _ => none)] ++ ([(13, 8, fun _ => none)] ++ ([(13, 8, fun _ => none)] ++ ([(13, 64, fun _ => none)] ++ ([(13, 8, fun _ => none)])))))))) (lvf := fun L => [(0, .ref (L n))]) (stf := fun L => [.ref (L n)]) C (by rw [List.length_append, List.length_cons, hn]; rfl) (by simp) kw_1_74 hz (by decide) (by decide) (Nat.le_of_ble_eq_true rfl) (Nat.le_of_ble_eq_true rfl) (Nat.le_of_ble_eq_true rfl) dX2_init_65 (fun L' g => by rw [g n (by omega)]) (fun L' g => by rw [g n (by omega)]) rfl (fun L7 g7 => ?_)
  have hL : ∀ i, i < n + 1 → L7 i = L i := fun i hi => (g7 i (by omega)).trans (hL i hi)
  have hz := ms_zz_le hz (Nat.le_succ _)
  refine b_putC (ci := 2) (k := 8) (b := (n + 7)) C in2 rfl (by decide) tyX2 tyX2_ok nmX2 hn dX2_init_67 (by decide) (by decide) rfl kw_2_109 rfl hin2 rfl (tyX2_ok 8 (by decide)) rfl rfl (by show _ < n + 1 + _; exact Nat.lt_of_lt_of_le (show (n + 7) < n + 1 + 7 by omega) (Nat.le_refl _)) rfl ?_
  refine a_aload_n C dX2_init_70 rfl 0 rfl rfl ?_
  refine a_iconst (v := 0) C dX2_init_71 (by decide) rfl ?_
  refine s_2_9 C dX2_init_72 (ms_oat hn) kw_2_110 rfl ?_
  have hz := ms_zz_sI (k := 9) (v := 0) hz (show n < _ by omega)
  refine a_aload_n C dX2_init_75 rfl 0 rfl rfl ?_
  refine a_sipush (v := 2048) C dX2_init_76 (by decide) rfl ?_
  refine b_newI (N' := 2048) (n0 := n + 8) (l1 := lp ++ (2, 0, (va_up (va_up (va_up (va_up (va_up (va_up (va_up (fun _ => none) 1 (some (n + 1))) 3 (some (n + 2))) 4 (some (n + 3))) 5 (some (n + 4))) 6 (some (n + 5))) 7 (some (n + 6))) 8 (some (n + 7)))) :: ([(13, 8, fun _ => none)] ++ ([(13, 8, fun _ => none)] ++ ([(13, 8, fun _ => none)] ++ ([(13, 8, fun _ => none)] ++ ([(13, 8, fun _ => none)] ++ ([(13, 64, fun _ => none)] ++ ([(13, 8, fun _ => none)] ++ ([(13, 2048, fun _ => none)]))))))))) (lvf := fun L => [(0, .ref (L n))]) (stf := fun L => [.ref (L n)]) C (by rw [List.length_append, List.length_cons, hn]; rfl) (by simp) kw_1_74 hz (by decide) (by decide) (Nat.le_of_ble_eq_true rfl) (Nat.le_of_ble_eq_true rfl) (Nat.le_of_ble_eq_true rfl) dX2_init_79 (fun L' g => by rw [g n (by omega)]) (fun L' g => by rw [g n (by omega)]) rfl (fun L8 g8 => ?_)
  have hL : ∀ i, i < n + 1 → L8 i = L i := fun i hi => (g8 i (by omega)).trans (hL i hi)
  have hz := ms_zz_le hz (Nat.le_succ _)
  refine b_putC (ci := 2) (k := 10) (b := (n + 8)) C in2 rfl (by decide) tyX2 tyX2_ok nmX2 hn dX2_init_81 (by decide) (by decide) rfl kw_2_111 rfl hin2 rfl (tyX2_ok 10 (by decide)) rfl rfl (by show _ < n + 1 + _; exact Nat.lt_of_lt_of_le (show (n + 8) < n + 1 + 8 by omega) (Nat.le_refl _)) rfl ?_
  refine a_aload_n C dX2_init_84 rfl 0 rfl rfl ?_
  refine a_sipush (v := 2048) C dX2_init_85 (by decide) rfl ?_
  refine b_newI (N' := 2048) (n0 := n + 9) (l1 := lp ++ (2, 0, (va_up (va_up (va_up (va_up (va_up (va_up (va_up (va_up (fun _ => none) 1 (some (n + 1))) 3 (some (n + 2))) 4 (some (n + 3))) 5 (some (n + 4))) 6 (some (n + 5))) 7 (some (n + 6))) 8 (some (n + 7))) 10 (some (n + 8)))) :: ([(13, 8, fun _ => none)] ++ ([(13, 8, fun _ => none)] ++ ([(13, 8, fun _ => none)] ++ ([(13, 8, fun _ => none)] ++ ([(13, 8, fun _ => none)] ++ ([(13, 64, fun _ => none)] ++ ([(13, 8, fun _ => none)] ++ ([(13, 2048, fun _ => none)] ++ ([(13, 2048, fun _ => none)])))))))))) (lvf := fun L => [(0, .ref (L n))]) (stf := fun L => [.ref (L n)]) C (by rw [List.length_append, List.length_cons, hn]; rfl) (by simp) kw_1_74 hz (by decide) (by decide) (Nat.le_of_ble_eq_true rfl) (Nat.le_of_ble_eq_true rfl) (Nat.le_of_ble_eq_true rfl) dX2_init_88 (fun L' g => by rw [g n (by omega)]) (fun L' g => by rw [g n (by omega)]) rfl (fun L9 g9 => ?_)
  have hL : ∀ i, i < n + 1 → L9 i = L i := fun i hi => (g9 i (by omega)).trans (hL i hi)
  have hz := ms_zz_le hz (Nat.le_succ _)
  refine b_putC (ci := 2) (k := 11) (b := (n + 9)) C in2 rfl (by decide) tyX2 tyX2_ok nmX2 hn dX2_init_90 (by decide) (by decide) rfl kw_2_112 rfl hin2 rfl (tyX2_ok 11 (by decide)) rfl rfl (by show _ < n + 1 + _; exact Nat.lt_of_lt_of_le (show (n + 9) < n + 1 + 9 by omega) (Nat.le_refl _)) rfl ?_
  refine a_aload_n C dX2_init_93 rfl 0 rfl rfl ?_
  refine a_sipush (v := 768) C dX2_init_94 (by decide) rfl ?_
  refine b_newI (N' := 768) (n0 := n + 10) (l1 := lp ++ (2, 0, (va_up (va_up (va_up (va_up (va_up (va_up (va_up (va_up (va_up (fun _ => none) 1 (some (n + 1))) 3 (some (n + 2))) 4 (some (n + 3))) 5 (some (n + 4))) 6 (some (n + 5))) 7 (some (n + 6))) 8 (some (n + 7))) 10 (some (n + 8))) 11 (some (n + 9)))) :: ([(13, 8, fun _ => none)] ++ ([(13, 8, fun _ => none)] ++ ([(13, 8, fun _ => none)] ++ ([(13, 8, fun _ => none)] ++ ([(13, 8, fun _ => none)] ++ ([(13, 64, fun _ => none)] ++ ([(13, 8, fun _ => none)] ++ ([(13, 2048, fun _ => none)] ++ ([(13, 2048, fun _ => none)] ++ ([(13, 768, fun _ => none)]))))))))))) (lvf := fun L => [(0, .ref (L n))]) (stf := fun L => [.ref (L n)]) C (by rw [List.length_append, List.length_cons, hn]; rfl) (by simp) kw_1_74 hz (by decide) (by decide) (Nat.le_of_ble_eq_true rfl) (Nat.le_of_ble_eq_true rfl) (Nat.le_of_ble_eq_true rfl) dX2_init_97 (fun L' g => by rw [g n (by omega)]) (fun L' g => by rw [g n (by omega)]) rfl (fun L10 g10 => ?_)
  have hL : ∀ i, i < n + 1 → L10 i = L i := fun i hi => (g10 i (by omega)).trans (hL i hi)
  have hz := ms_zz_le hz (Nat.le_succ _)
  refine b_putC (ci := 2) (k := 12) (b := (n + 10)) C in2 rfl (by decide) tyX2 tyX2_ok nmX2 hn dX2_init_99 (by decide) (by decide) rfl kw_2_113 rfl hin2 rfl (tyX2_ok 12 (by decide)) rfl rfl (by show _ < n + 1 + _; exact Nat.lt_of_lt_of_le (show (n + 10) < n + 1 + 10 by omega) (Nat.le_refl _)) rfl ?_
  refine a_aload_n C dX2_init_102 rfl 0 rfl rfl ?_
  refine a_iconst (v := 3) C dX2_init_103 (by decide) rfl ?_
  refine b_newI (N' := 3) (n0 := n + 11) (l1 := lp ++ (2, 0, (va_up (va_up (va_up (va_up (va_up (va_up (va_up (va_up (va_up (va_up (fun _ => none) 1 (some (n + 1))) 3 (some (n + 2))) 4 (some (n + 3))) 5 (some (n + 4))) 6 (some (n + 5))) 7 (some (n + 6))) 8 (some (n + 7))) 10 (some (n + 8))) 11 (some (n + 9))) 12 (some (n + 10)))) :: ([(13, 8, fun _ => none)] ++ ([(13, 8, fun _ => none)] ++ ([(13, 8, fun _ => none)] ++ ([(13, 8, fun _ => none)] ++ ([(13, 8, fun _ => none)] ++ ([(13, 64, fun _ => none)] ++ ([(13, 8, fun _ => none)] ++ ([(13, 2048, fun _ => none)] ++ ([(13, 2048, fun _ => none)] ++ ([(13, 768, fun _ => none)] ++ ([(13, 3, fun _ => none)])))))))))))) (lvf := fun L => [(0, .ref (L n))]) (stf := fun L => [.ref (L n)]) C (by rw [List.length_append, List.length_cons, hn]; rfl) (by simp) kw_1_74 hz (by decide) (by decide) (Nat.le_of_ble_eq_true rfl) (Nat.le_of_ble_eq_true rfl) (Nat.le_of_ble_eq_true rfl) dX2_init_104 (fun L' g => by rw [g n (by omega)]) (fun L' g => by rw [g n (by omega)]) rfl (fun L11 g11 => ?_)
  have hL : ∀ i, i < n + 1 → L11 i = L i := fun i hi => (g11 i (by omega)).trans (hL i hi)
  have hz := ms_zz_le hz (Nat.le_succ _)
  refine b_putC (ci := 2) (k := 13) (b := (n + 11)) C in2 rfl (by decide) tyX2 tyX2_ok nmX2 hn dX2_init_106 (by decide) (by decide) rfl kw_2_114 rfl hin2 rfl (tyX2_ok 13 (by decide)) rfl rfl (by show _ < n + 1 + _; exact Nat.lt_of_lt_of_le (show (n + 11) < n + 1 + 11 by omega) (Nat.le_refl _)) rfl ?_
  refine a_aload_n C dX2_init_109 rfl 0 rfl rfl ?_
  refine a_iconst (v := 3) C dX2_init_110 (by decide) rfl ?_
  refine b_newI (N' := 3) (n0 := n + 12) (l1 := lp ++ (2, 0, (va_up (va_up (va_up (va_up (va_up (va_up (va_up (va_up (va_up (va_up (va_up (fun _ => none) 1 (some (n + 1))) 3 (some (n + 2))) 4 (some (n + 3))) 5 (some (n + 4))) 6 (some (n + 5))) 7 (some (n + 6))) 8 (some (n + 7))) 10 (some (n + 8))) 11 (some (n + 9))) 12 (some (n + 10))) 13 (some (n + 11)))) :: ([(13, 8, fun _ => none)] ++ ([(13, 8, fun _ => none)] ++ ([(13, 8, fun _ => none)] ++ ([(13, 8, fun _ => none)] ++ ([(13, 8, fun _ => none)] ++ ([(13, 64, fun _ => none)] ++ ([(13, 8, fun _ => none)] ++ ([(13, 2048, fun _ => none)] ++ ([(13, 2048, fun _ => none)] ++ ([(13, 768, fun _ => none)] ++ ([(13, 3, fun _ => none)] ++ ([(13, 3, fun _ => none)]))))))))))))) (lvf := fun L => [(0, .ref (L n))]) (stf := fun L => [.ref (L n)]) C (by rw [List.length_append, List.length_cons, hn]; rfl) (by simp) kw_1_74 hz (by decide) (by decide) (Nat.le_of_ble_eq_true rfl) (Nat.le_of_ble_eq_true rfl) (Nat.le_of_ble_eq_true rfl) dX2_init_111 (fun L' g => by rw [g n (by omega)]) (fun L' g => by rw [g n (by omega)]) rfl (fun L12 g12 => ?_)
  have hL : ∀ i, i < n + 1 → L12 i = L i := fun i hi => (g12 i (by omega)).trans (hL i hi)
  have hz := ms_zz_le hz (Nat.le_succ _)
  refine b_putC (ci := 2) (k := 14) (b := (n + 12)) C in2 rfl (by decide) tyX2 tyX2_ok nmX2 hn dX2_init_113 (by decide) (by decide) rfl kw_2_115 rfl hin2 rfl (tyX2_ok 14 (by decide)) rfl rfl (by show _ < n + 1 + _; exact Nat.lt_of_lt_of_le (show (n + 12) < n + 1 + 12 by omega) (Nat.le_refl _)) rfl ?_
  refine a_aload_n C dX2_init_116 rfl 0 rfl rfl ?_
  refine a_iconst (v := 0) C dX2_init_117 (by decide) rfl ?_
  refine s_2_15 C dX2_init_118 (ms_oat hn) kw_2_116 rfl ?_
  have hz := ms_zz_sI (k := 15) (v := 0) hz (show n < _ by omega)
  exact a_cret C dX2_init_121 hr hlocks (Nat.le_of_ble_eq_true rfl) (Nat.le_of_ble_eq_true rfl) rfl rfl (by rw [ms_of_Z, List.length_append, hn]; exact hL)
