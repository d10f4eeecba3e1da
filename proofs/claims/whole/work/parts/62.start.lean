/-! ===== THE START: the facts that the Statement gives ===== -/
theorem ms_nests_in : ∀ q ∈ ms_nests, Cond.methodLinkNest q.1 q.2.1 q.2.2.1 q.2.2.2 ∈ lw_tbl := by
  intro q h
  unfold ms_nests at h
  simp only [List.mem_cons, List.not_mem_nil, or_false] at h
  rcases h with rfl | rfl | rfl | rfl | rfl | rfl | rfl | rfl | rfl | rfl | rfl | rfl | rfl
  · exact kw_1_37
  · exact kw_1_43
  · exact kw_1_78
  · exact kw_1_133
  · exact kw_1_206
  · exact kw_1_211
  · exact kw_1_214
  · exact kw_2_2
  · exact kw_2_45
  · exact kw_2_55
  · exact kw_2_94
  · exact kw_3_72
  · exact kw_5_67
theorem ms_decl_in : ∀ q ∈ ms_decl, Cond.declares q ∈ lw_tbl := by
  intro q h
  unfold ms_decl at h
  simp only [List.mem_cons, List.not_mem_nil, or_false] at h
  rcases h with rfl | rfl | rfl | rfl | rfl | rfl
  · exact kw_3_140
  · exact kw_3_141
  · exact kw_3_142
  · exact kw_3_143
  · exact kw_3_144
  · exact kw_3_145
theorem ms_cast_in : ∀ q ∈ ms_cast, Cond.castable q.1 q.2 ∈ lw_tbl := by
  intro q h
  unfold ms_cast at h
  simp only [List.mem_cons, List.not_mem_nil, or_false] at h
  rcases h with rfl | rfl | rfl
  · exact kw_3_139
  · exact kw_4_159
  · exact kw_5_170
theorem ms_nc_in : ∀ q ∈ ms_nc, Cond.not (Cond.castable q.1 q.2) ∈ (flatC (Jvm.Cond.and given_1 narrow_1)) := by
  intro q h
  unfold ms_nc at h
  simp only [List.mem_cons, List.not_mem_nil, or_false] at h
  rcases h with rfl | rfl
  · exact List.mem_of_getElem? (i := 37) (by decide +kernel)
  · exact List.mem_of_getElem? (i := 38) (by decide +kernel)
def ms_swd (q : String × Nat × String × List Int32) : List Cond := .exactly (.string q.1 q.2.1) "java/lang/String" :: .eq (.field (.string q.1 q.2.1) "java/lang/String" "coder" "B") (.int 0) :: .arrayOf (.field (.string q.1 q.2.1) "java/lang/String" "value" "[B") .byte :: .eq (.length (.field (.string q.1 q.2.1) "java/lang/String" "value" "[B")) (.int (Int32.ofNat q.2.2.2.length)) :: (List.range q.2.2.2.length).map (fun i => .eq (.elem (.field (.string q.1 q.2.1) "java/lang/String" "value" "[B") (.int (Int32.ofNat i))) (.int (q.2.2.2.getD i 0)))
theorem ms_swd_pl : ms_strs.flatMap ms_swd = [53, 54, 55, 56, 57, 58, 59, 60, 61, 62, 63, 64, 65, 66, 67, 68, 69, 70, 71, 72, 73, 74, 75, 76, 77, 78, 79, 80, 81, 82, 83, 84, 85, 86, 87, 88, 89, 90, 91, 92, 93, 94, 95, 96, 97, 98, 99, 100, 101, 102, 103, 104, 105, 106, 107, 108, 109, 110, 111, 112, 113, 114, 115, 116, 117, 118, 119, 120, 121, 122, 123, 124, 125, 126, 127, 128, 129, 130, 131, 132, 133, 134, 135, 136, 137, 138, 139, 140, 141, 142, 143, 144, 145, 146, 147, 148, 149, 150, 151, 152, 153, 154, 155, 156, 157, 158, 159, 160, 161, 162, 163, 164, 165, 166, 167, 168, 169, 170, 171, 172, 173, 174, 175, 176, 177, 178, 179, 180, 181, 182, 183, 184, 185, 186, 187, 188, 189, 190, 191, 192, 193, 194, 195, 196, 197, 198, 199, 200, 201, 202, 203, 204, 205, 206, 207, 208, 209, 210, 211, 212, 213, 214, 215, 216, 217, 218, 219, 220, 221, 222, 223, 224, 225, 226, 227, 228, 229, 230, 231, 232, 233, 234, 235, 236, 237, 238, 239, 240, 241, 242, 243, 244, 245, 246, 247, 248, 249, 250, 251, 252, 253, 254, 255, 256, 257, 258, 259, 260, 261, 262, 263, 264, 265, 266, 267, 268, 269, 270, 271, 272, 273, 274, 275, 276, 277, 278, 279, 280, 281, 282, 283, 284, 285, 286, 287, 288, 289, 290, 291, 292, 293, 294, 295, 296, 297, 298, 299, 300, 301, 302, 303, 304, 305, 306, 307, 308, 309, 310, 311, 312, 313, 314, 315, 316, 317, 318, 319, 320, 321, 322, 323, 324, 325, 326, 327, 328, 329, 330, 331, 332, 333, 334, 335, 336, 337, 338, 339, 340, 341, 342, 343, 344, 345, 346, 347, 348, 349, 350, 351, 352, 353, 354, 355, 356, 357, 358, 359, 360, 361, 362, 363, 364, 365, 366, 367, 368, 369, 370, 371, 372, 373, 374, 375, 376, 377, 378, 379, 380, 381, 382, 383, 384, 385, 386, 387, 388, 389, 390, 391, 392, 393, 394, 395, 396, 397, 398, 399, 400, 401, 402, 403, 404, 405, 406, 407, 408, 409, 410, 411, 412, 413, 414, 415, 416, 417, 418, 419, 420, 421, 422, 423, 425, 426, 427, 428, 429, 430, 431, 432, 433, 434, 436, 437, 438, 439, 440, 441, 442, 443, 444, 446, 447, 448, 449, 450, 451, 452, 454, 455, 456, 457, 458, 459, 460, 461, 462, 463, 465, 466, 467, 468, 469, 470, 471, 472, 473, 475, 476, 477, 478, 479, 480, 481, 483, 484, 485, 486, 487, 488, 489, 490, 491, 493, 494, 495, 496, 497, 498, 499, 500, 501, 502, 503, 505, 506, 507, 508, 509, 510, 511, 512].filterMap (fun i => (flatC (Jvm.Cond.and given_1 narrow_1))[i]?) := by decide +kernel
theorem ms_swd_in {args : Array Value} {s : State} (h : (Jvm.Cond.and given_1 narrow_1).before args s = true) : ∀ w ∈ ms_strs.flatMap ms_swd, w.before args s = true := by
  intro w hw
  rw [ms_swd_pl] at hw
  obtain ⟨i, -, hi⟩ := List.mem_filterMap.mp hw
  exact flat_of_before _ h w (List.mem_of_getElem? hi)
theorem ms_strs_small : ∀ q ∈ ms_strs, q.2.2.2.length < 2 ^ 31 := by decide +kernel
theorem ms_strs_ref : ∀ q ∈ ms_strs, Cond.stringRef q.1 q.2.1 q.2.2.1 ∈ lw_tbl := by
  intro q h
  unfold ms_strs at h
  simp only [List.mem_cons, List.not_mem_nil, or_false] at h
  rcases h with rfl | rfl | rfl | rfl | rfl | rfl | rfl | rfl | rfl | rfl | rfl | rfl | rfl | rfl | rfl | rfl | rfl | rfl | rfl | rfl | rfl | rfl | rfl | rfl | rfl | rfl | rfl | rfl | rfl | rfl | rfl | rfl | rfl
  · exact kw_3_178
  · exact kw_3_236
  · exact kw_4_70
  · exact kw_4_79
  · exact kw_4_85
  · exact kw_4_86
  · exact kw_4_95
  · exact kw_4_96
  · exact kw_4_97
  · exact kw_4_110
  · exact kw_4_115
  · exact kw_4_166
  · exact kw_4_181
  · exact kw_4_202
  · exact kw_4_217
  · exact kw_4_226
  · exact kw_5_0
  · exact kw_5_12
  · exact kw_5_58
  · exact kw_5_104
  · exact kw_5_177
  · exact kw_5_191
  · exact kw_5_199
  · exact kw_6_105
  · exact kw_6_147
  · exact kw_6_155
  · exact kw_6_163
  · exact kw_6_164
  · exact kw_6_172
  · exact kw_6_177
  · exact kw_6_178
  · exact kw_6_191
  · exact kw_6_192
theorem ms_str1 {args : Array Value} {s : State} {A : Nat → Prop} (hA : ∀ a : Nat, a < s.heap.size → ¬ A a) (q : String × Nat × String × List Int32) (hN : q.2.2.2.length < 2 ^ 31) (hr : (Cond.stringRef q.1 q.2.1 q.2.2.1).before args s = true) (hw : ∀ w ∈ ms_swd q, w.before args s = true) : ∃ x : Nat × Nat, vk_R q.1 q.2.1 q.2.2.1 x.1 s ∧ va_O "java/lang/String" x.1 A s s.heap ∧ va_OF "java/lang/String" "coder" "B" (.int 0) x.1 A s s.heap ∧ va_OF "java/lang/String" "value" "[B" (.ref x.2) x.1 A s s.heap ∧ va_T .byte x.2 q.2.2.2.length (fun i => .int (q.2.2.2.getD i 0)) A s s.heap := by
  unfold ms_swd at hw
  have hex := hw _ List.mem_cons_self
  have hco := hw _ (List.mem_cons_of_mem _ List.mem_cons_self)
  have har := hw _ (List.mem_cons_of_mem _ (List.mem_cons_of_mem _ List.mem_cons_self))
  have hle := hw _ (List.mem_cons_of_mem _ (List.mem_cons_of_mem _ (List.mem_cons_of_mem _ List.mem_cons_self)))
  have hel : ∀ j, j < q.2.2.2.length → (Cond.eq (.elem (.field (.string q.1 q.2.1) "java/lang/String" "value" "[B") (.int (Int32.ofNat j))) (.int (q.2.2.2.getD j 0))).before args s = true := fun j hj =>
    hw _ (List.mem_cons_of_mem _ (List.mem_cons_of_mem _ (List.mem_cons_of_mem _ (List.mem_cons_of_mem _ (List.mem_map.mpr ⟨j, List.mem_range.mpr hj, rfl⟩)))))
  obtain ⟨a, c, cA, kA, q1, q2, q3, q4, q5, q6, -⟩ := Cond.exactly_spec (args := args) (first := s) (o := none) (s := s) (idx := []) hex
  obtain ⟨t, ht, hT⟩ := va_Tof (f := fun j => .int (q.2.2.2.getD j 0)) (A := A) hN har (va_eqt hle) (fun j hj => va_eqt (hel j hj)) hA
  exact ⟨(a, t), vk_R.of hr q1, ⟨cA, q3, q5, by rw [q6]; exact q2, hA a (Array.getElem?_eq_some_iff.mp q3).1⟩, vk_OFof q1 (va_eqt hco) hA, vk_OFof q1 ht hA, hT⟩
theorem ms_strs_start {args : Array Value} {s : State} {A : Nat → Prop} (hA : ∀ a : Nat, a < s.heap.size → ¬ A a) (hts : ∀ w ∈ lw_tbl, w.before args s = true) (hg : (Jvm.Cond.and given_1 narrow_1).before args s = true) : ∃ ad : Nat → Nat × Nat, ∀ (j : Nat) (q : String × Nat × String × List Int32), ms_strs[j]? = some q → vk_R q.1 q.2.1 q.2.2.1 (ad j).1 s ∧ va_O "java/lang/String" (ad j).1 A s s.heap ∧ va_OF "java/lang/String" "coder" "B" (.int 0) (ad j).1 A s s.heap ∧ va_OF "java/lang/String" "value" "[B" (.ref (ad j).2) (ad j).1 A s s.heap ∧ va_T .byte (ad j).2 q.2.2.2.length (fun i => .int (q.2.2.2.getD i 0)) A s s.heap := by
  have h0 : ∀ j : Nat, ∃ x : Nat × Nat, ∀ q : String × Nat × String × List Int32, ms_strs[j]? = some q → vk_R q.1 q.2.1 q.2.2.1 x.1 s ∧ va_O "java/lang/String" x.1 A s s.heap ∧ va_OF "java/lang/String" "coder" "B" (.int 0) x.1 A s s.heap ∧ va_OF "java/lang/String" "value" "[B" (.ref x.2) x.1 A s s.heap ∧ va_T .byte x.2 q.2.2.2.length (fun i => .int (q.2.2.2.getD i 0)) A s s.heap := by
    intro j
    cases hj : ms_strs[j]? with
    | none => exact ⟨(0, 0), fun q h => by cases h⟩
    | some q =>
      have hm := List.mem_of_getElem? hj
      obtain ⟨x, hx⟩ := ms_str1 hA q (ms_strs_small q hm) (hts _ (ms_strs_ref q hm)) (fun w hw => ms_swd_in hg w (List.mem_flatMap.mpr ⟨q, hm, hw⟩))
      exact ⟨x, fun q' h => by cases h; exact hx⟩
  obtain ⟨ad, had⟩ := Classical.axiomOfChoice h0
  exact ⟨ad, had⟩
theorem ms_prim {args : Array Value} {s : State} {ty : FieldType} (h : (Cond.arrayClass ty).before args s = true) (hp : ∀ C, ty ≠ .object C) : ∃ cA : ClassId, ArrOfT s cA ty ∧ va_RA s cA ty := by
  obtain ⟨cA, kA, comp, h1, h2, h3⟩ := Cond.arrayClass_spec h
  refine ⟨cA, fun n z => ⟨fun k h => (by cases h), kA, h2, comp, h3⟩, ?_⟩
  cases ty with
  | object C => exact absurd rfl (hp C)
  | _ => exact h1
theorem ms_townarr {s : State} (h : va_AO "CensusWalk$Town" s) : ∃ cA : ClassId, ArrOfT s cA (.object "CensusWalk$Town") ∧ va_RA s cA (.object "CensusWalk$Town") := by
  obtain ⟨comp, c, k, h1, h2, h3, h4, h5⟩ := Cond.arrayOver_spec h
  exact ⟨c, fun n z => ⟨fun k h => (by cases h), k, h3, comp, h4⟩, k, comp, h3, h4, h1, h5⟩
theorem ms_intarr {s : State} (h : va_AOA .int s) : ∃ cA : ClassId, ArrOfT s cA (.array .int) ∧ va_RA s cA (.array .int) := by
  obtain ⟨comp, c, k, h1, h2, h3, h4, h5⟩ := arrayOver_specB h
  exact ⟨c, fun n z => ⟨fun k h => (by cases h), k, h3, comp, h4⟩, h5⟩
theorem ms_classes {args : Array Value} {s : State} (hts : ∀ w ∈ lw_tbl, w.before args s = true) : ∃ G : va_G, ∀ (c : Nat) (q : vw_C), vwCl[c]? = some q → u_Kn s q.1 q.2.1 q.2.2 (G.1 c) (G.2 c) := by
  have htg : ∀ w ∈ lw_g, w.before args s = true := fun w h => hts w (List.mem_filter.mp h).1
  obtain ⟨c0, i0, k0⟩ := u_known (C := RX0) (T := TX0) (N := 9) (n := 9) htg in0 (htg _ kw_1_77)
  obtain ⟨c1, i1, k1⟩ := u_known (C := RX1) (T := TX1) (N := 1) (n := 1) htg in1 (htg _ kw_2_44)
  obtain ⟨c2, i2, k2⟩ := u_known (C := RX2) (T := TX2) (N := 16) (n := 16) htg in2 (htg _ kw_2_93)
  obtain ⟨c3, i3, k3⟩ := u_known (C := RX3) (T := TX3) (N := 8) (n := 8) htg in3 (htg _ kw_1_205)
  obtain ⟨c4, i4, k4⟩ := u_known (C := RX4) (T := TX4) (N := 9) (n := 9) htg in4 (htg _ kw_2_54)
  obtain ⟨c5, i5, k5⟩ := u_known (C := RX5) (T := TX5) (N := 5) (n := 5) htg in5 (htg _ kw_1_42)
  obtain ⟨c6, i6, k6⟩ := u_known (C := RX6) (T := TX6) (N := 6) (n := 6) htg in6 (htg _ kw_1_213)
  obtain ⟨c7, i7, k7⟩ := u_known (C := RX7) (T := TX7) (N := 6) (n := 6) htg in7 (htg _ kw_1_36)
  obtain ⟨c8, i8, k8⟩ := u_known (C := RX8) (T := TX8) (N := 3) (n := 3) htg in8 (htg _ kw_2_1)
  obtain ⟨c9, i9, k9⟩ := u_known (C := RX9) (T := TX9) (N := 5) (n := 5) htg in9 (htg _ kw_1_132)
  obtain ⟨c10, i10, k10⟩ := u_known (C := RX10) (T := TX10) (N := 13) (n := 13) htg in10 (htg _ kw_1_28)
  obtain ⟨c11, i11, k11⟩ := u_known (C := RX11) (T := TX11) (N := 34) (n := 34) htg in11 (htg _ kw_5_215)
  refine ⟨(fun k => [c0, c1, c2, c3, c4, c5, c6, c7, c8, c9, c10, c11].getD k 0, fun k => [i0, i1, i2, i3, i4, i5, i6, i7, i8, i9, i10, i11].getD k (fun _ => 0)), ?_⟩
  intro k q hq
  match k, hq with
  | 0, hq => cases hq; exact k0
  | 1, hq => cases hq; exact k1
  | 2, hq => cases hq; exact k2
  | 3, hq => cases hq; exact k3
  | 4, hq => cases hq; exact k4
  | 5, hq => cases hq; exact k5
  | 6, hq => cases hq; exact k6
  | 7, hq => cases hq; exact k7
  | 8, hq => cases hq; exact k8
  | 9, hq => cases hq; exact k9
  | 10, hq => cases hq; exact k10
  | 11, hq => cases hq; exact k11
  | k + 12, hq => simp [vwCl] at hq
theorem ms_start {args : Array Value} {s : State} {A : Nat → Prop} (hA : ∀ a : Nat, a < s.heap.size → ¬ A a) (hts : ∀ w ∈ lw_tbl, w.before args s = true) (hg : (Jvm.Cond.and given_1 narrow_1).before args s = true) : ∃ (G : va_G) (cy : Nat → ClassId), va_K G vwCl (ms_ty cy) s ∧ ms_F cy A s := by
  have htg : ∀ w ∈ lw_g, w.before args s = true := fun w h => hts w (List.mem_filter.mp h).1
  have hn := flat_of_before _ hg
  have hao : va_AO "CensusWalk$Town" s := va_AO.of (hts _ kw_1_203)
  have haa : va_AOA .int s := hts _ kw_5_221
  obtain ⟨G, hG⟩ := ms_classes hts
  obtain ⟨ad, had⟩ := ms_strs_start hA hts hg
  obtain ⟨y12, a12, b12⟩ := ms_prim (htg _ kw_1_73) (fun C h => by cases h)
  obtain ⟨y13, a13, b13⟩ := ms_prim (htg _ kw_1_74) (fun C h => by cases h)
  obtain ⟨y14, a14, b14⟩ := ms_prim (htg _ kw_6_85) (fun C h => by cases h)
  obtain ⟨y15, a15, b15⟩ := ms_prim (htg _ kw_1_75) (fun C h => by cases h)
  obtain ⟨y16, a16, b16⟩ := ms_townarr hao
  obtain ⟨y17, a17, b17⟩ := ms_intarr haa
  obtain ⟨cy, e12, e13, e14, e15, e16, e17, eK, eV⟩ : ∃ cy : Nat → ClassId, cy 12 = y12 ∧ cy 13 = y13 ∧ cy 14 = y14 ∧ cy 15 = y15 ∧ cy 16 = y16 ∧ cy 17 = y17 ∧ (∀ j, j < 100 → cy (100 + j) = (ad j).1) ∧ (∀ j, cy (200 + j) = (ad j).2) := by
    refine ⟨fun k => if k = 12 then y12 else if k = 13 then y13 else if k = 14 then y14 else if k = 15 then y15 else if k = 16 then y16 else if k = 17 then y17 else if k < 200 then (ad (k - 100)).1 else (ad (k - 200)).2, rfl, rfl, rfl, rfl, rfl, rfl, fun j hj => ?_, fun j => ?_⟩
    · simp only [show ¬ 100 + j = 12 by omega, show ¬ 100 + j = 13 by omega, show ¬ 100 + j = 14 by omega, show ¬ 100 + j = 15 by omega, show ¬ 100 + j = 16 by omega, show ¬ 100 + j = 17 by omega, show 100 + j < 200 by omega, if_false, if_true, show 100 + j - 100 = j by omega]
    · simp only [show ¬ 200 + j = 12 by omega, show ¬ 200 + j = 13 by omega, show ¬ 200 + j = 14 by omega, show ¬ 200 + j = 15 by omega, show ¬ 200 + j = 16 by omega, show ¬ 200 + j = 17 by omega, show ¬ 200 + j < 200 by omega, if_false, show 200 + j - 200 = j by omega]
  subst e12; subst e13; subst e14; subst e15; subst e16; subst e17
  refine ⟨G, cy, ⟨hG, fun k q hk => ?_⟩, ?_⟩
  · unfold ms_ty at hk
    match k, hk with
    | 0, hk => cases hk; exact ⟨a12, b12⟩
    | 1, hk => cases hk; exact ⟨a13, b13⟩
    | 2, hk => cases hk; exact ⟨a14, b14⟩
    | 3, hk => cases hk; exact ⟨a15, b15⟩
    | 4, hk => cases hk; exact ⟨a16, b16⟩
    | 5, hk => cases hk; exact ⟨a17, b17⟩
    | k + 6, hk => simp at hk
  · refine ⟨fun q hq => va_Nw.of rfl (hts _ (ms_nests_in q hq)), fun j q hq => ?_, va_Zof (hts _ kw_4_10) (htg _ kw_1_18) (va_eqt (hn _ (List.mem_of_getElem? (i := 6) (by decide +kernel)))) hA, va_Zqof (hts _ kw_4_26) (htg _ kw_1_20) (hn _ (List.mem_of_getElem? (i := 7) (by decide +kernel))) hA, vx_Zqof (hts _ kw_3_164) (htg _ kw_1_13) (hn _ (List.mem_of_getElem? (i := 4) (by decide +kernel))) hA, vx_Zqof (hts _ kw_3_166) (htg _ kw_1_13) (hn _ (List.mem_of_getElem? (i := 5) (by decide +kernel))) hA, fun y hy => va_Nw.of rfl (hts _ (ms_decl_in y hy)), fun q hq => va_Nw.of rfl (hts _ (ms_cast_in q hq)), fun q hq => va_Nc.of (hn _ (ms_nc_in q hq)), hao, haa⟩
    have hj : j < 33 := (List.getElem?_eq_some_iff.mp hq).1
    unfold ms_Str
    rw [eK j (by omega), eV j]
    exact had j q hq
